abbrev rm_X8_in : Room := { frames := 0, cells := 0, slots := 0, locals := 0 }
abbrev w_X8_in (cI cZ cG : ClassId) : va_W := []
set_option maxHeartbeats 4000000 in
set_option maxRecDepth 100000 in
theorem c_X8_in (l : Launch) (dC : Nat → ClassId) (dI : Nat → Nat → Nat) (cI cZ cG : ClassId) (a0 : Int64) (a2 : Int64) (a4 : Int64) {r0 : Int32} (hf : x8_in a0 a2 a4 = some r0) : Met l yX8_in wsX8_in rm_X8_in (va_Pc [.long a0, .long a2, .long a4] (gR (dC, dI) vwCl (gT cI cZ cG) (w_X8_in cI cZ cG))) (vp_Si (fun r => r = r0)) 0 0 (fun _ => False) := by
  refine Met.ofW (cc := cX8_in) (maxL := 6) (ret := (some .boolean)) (by decide) rfl ?_
  intro p e s m args below meth c s₁ B hml hv
  obtain ⟨rfl, hv⟩ := hv
  obtain ⟨hP, hK, hN⟩ := hv
  have hx := B.exec
  have hb := B.bytes
  have hr := B.returns
  have hts := atoms_spec (ws := wsX8_in) B.pre
  have hown : s.vm.findClass RX8 = some m.cls := findClass_of_methodNamed B.named
  have hlocks := B.notSynchronized
  obtain ⟨Q, hQ⟩ : ∃ Q : State → Prop, Q = MQ below (vp_Si (fun r => r = r0)) (([Value.long a0, Value.long a2, Value.long a4] : List Value).toArray) s 0 0 (fun _ => False) := ⟨_, rfl⟩
  have hl := lv_entry ([.long a0, .long a2, .long a4]) (n := 6) (Nat.le_of_ble_eq_true rfl)
  rw [← hQ, lg_entry_eq]
  generalize (lg_sl ([.long a0, .long a2, .long a4]) ++ List.replicate (6 - (lg_sl ([.long a0, .long a2, .long a4])).length) Slot.unset).toArray = ls at hl ⊢
  have hl : lv_has ls 6 [(0, .long a0), (2, .long a2), (4, .long a4)] := hl
  show W p l e rm_X8_in s m (([Value.long a0, Value.long a2, Value.long a4] : List Value).toArray) below meth c s.heap [] 0 0 Q (F0 m 0 ls [])
  unfold x8_in at hf
  refine lv_lload_n hx hb dX8_in_0 rfl (lv_at hl 0 rfl) ?_
  refine lv_lload_n hx hb dX8_in_1 rfl (lv_at hl 1 rfl) ?_
  refine W.lcmp hx hb dX8_in_2 ?_
  refine lv_if_lt (tgt := 17) hx hb dX8_in_3 (by decide) (fun c1 => ?_) (fun c1 => ?_)
  · have hf := g_pos c1 hf
    refine lv_iconst (v := (0 : Int32)) hx hb dX8_in_17 (by decide) ?_
    rw [hQ]
    exact W.zret (v := (0 : Int32)) hx hb hr (by decide +kernel) (fun t ht hW => ⟨_, rfl, Option.some.inj hf, ht⟩) (fun q h => by cases h) dX8_in_18
  · have hf := g_neg c1 hf
    refine lv_lload_n hx hb dX8_in_6 rfl (lv_at hl 0 rfl) ?_
    refine lv_lload hx hb dX8_in_7 (lv_at hl 2 rfl) ?_
    refine W.lcmp hx hb dX8_in_9 ?_
    refine lv_if_gt (tgt := 17) hx hb dX8_in_10 (by decide) (fun c2 => ?_) (fun c2 => ?_)
    · have hf := g_pos c2 hf
      refine lv_iconst (v := (0 : Int32)) hx hb dX8_in_17 (by decide) ?_
      rw [hQ]
      exact W.zret (v := (0 : Int32)) hx hb hr (by decide +kernel) (fun t ht hW => ⟨_, rfl, Option.some.inj hf, ht⟩) (fun q h => by cases h) dX8_in_18
    · have hf := g_neg c2 hf
      refine lv_iconst (v := (1 : Int32)) hx hb dX8_in_13 (by decide) ?_
      refine lv_goto (tgt := 18) hx hb dX8_in_14 (by decide) ?_
      rw [hQ]
      exact W.zret (v := (1 : Int32)) hx hb hr (by decide +kernel) (fun t ht hW => ⟨_, rfl, Option.some.inj hf, ht⟩) (fun q h => by cases h) dX8_in_18
abbrev rm_X8_has : Room := { frames := 0, cells := 0, slots := 0, locals := 0 }
abbrev w_X8_has (cI cZ cG : ClassId) : va_W := []
set_option maxHeartbeats 4000000 in
set_option maxRecDepth 100000 in
theorem c_X8_has (l : Launch) (dC : Nat → ClassId) (dI : Nat → Nat → Nat) (cI cZ cG : ClassId) (a0 : Int32) (a1 : Int32) {r0 : Int32} (hf : x8_has a0 a1 = some r0) : Met l yX8_has wsX8_has rm_X8_has (va_Pc [.int a0, .int a1] (gR (dC, dI) vwCl (gT cI cZ cG) (w_X8_has cI cZ cG))) (vp_Si (fun r => r = r0)) 0 0 (fun _ => False) := by
  refine Met.ofW (cc := cX8_has) (maxL := 2) (ret := (some .boolean)) (by decide) rfl ?_
  intro p e s m args below meth c s₁ B hml hv
  obtain ⟨rfl, hv⟩ := hv
  obtain ⟨hP, hK, hN⟩ := hv
  have hx := B.exec
  have hb := B.bytes
  have hr := B.returns
  have hts := atoms_spec (ws := wsX8_has) B.pre
  have hown : s.vm.findClass RX8 = some m.cls := findClass_of_methodNamed B.named
  have hlocks := B.notSynchronized
  obtain ⟨Q, hQ⟩ : ∃ Q : State → Prop, Q = MQ below (vp_Si (fun r => r = r0)) (([Value.int a0, Value.int a1] : List Value).toArray) s 0 0 (fun _ => False) := ⟨_, rfl⟩
  have hl := lv_entry ([.int a0, .int a1]) (n := 2) (Nat.le_of_ble_eq_true rfl)
  rw [← hQ, lg_entry_eq]
  generalize (lg_sl ([.int a0, .int a1]) ++ List.replicate (2 - (lg_sl ([.int a0, .int a1])).length) Slot.unset).toArray = ls at hl ⊢
  have hl : lv_has ls 2 [(0, .int a0), (1, .int a1)] := hl
  show W p l e rm_X8_has s m (([Value.int a0, Value.int a1] : List Value).toArray) below meth c s.heap [] 0 0 Q (F0 m 0 ls [])
  unfold x8_has at hf
  refine lv_iload_n hx hb dX8_has_0 rfl (lv_at hl 0 rfl) ?_
  refine lv_iload_n hx hb dX8_has_1 rfl (lv_at hl 1 rfl) ?_
  refine lv_ishr hx hb dX8_has_2 ?_
  refine lv_iconst (v := (1 : Int32)) hx hb dX8_has_3 (by decide) ?_
  refine lv_iand hx hb dX8_has_4 ?_
  refine lv_iconst (v := (1 : Int32)) hx hb dX8_has_5 (by decide) ?_
  refine lv_icmp_ne (tgt := 13) hx hb dX8_has_6 (by decide) (fun c1 => ?_) (fun c1 => ?_)
  · have hf := g_neg c1 hf
    refine lv_iconst (v := (0 : Int32)) hx hb dX8_has_13 (by decide) ?_
    rw [hQ]
    exact W.zret (v := (0 : Int32)) hx hb hr (by decide +kernel) (fun t ht hW => ⟨_, rfl, Option.some.inj hf, ht⟩) (fun q h => by cases h) dX8_has_14
  · have hf := g_pos c1 hf
    refine lv_iconst (v := (1 : Int32)) hx hb dX8_has_9 (by decide) ?_
    refine lv_goto (tgt := 14) hx hb dX8_has_10 (by decide) ?_
    rw [hQ]
    exact W.zret (v := (1 : Int32)) hx hb hr (by decide +kernel) (fun t ht hW => ⟨_, rfl, Option.some.inj hf, ht⟩) (fun q h => by cases h) dX8_has_14
abbrev rm_X8_many : Room := { frames := 0, cells := 0, slots := 0, locals := 0 }
abbrev w_X8_many (cI cZ cG : ClassId) : va_W := []
set_option maxHeartbeats 4000000 in
set_option maxRecDepth 100000 in
theorem c_X8_many (l : Launch) (dC : Nat → ClassId) (dI : Nat → Nat → Nat) (cI cZ cG : ClassId) {N : Nat} (a0 : Int32) {r0 : Int32} (hf : x8_many N a0 = some r0) : Met l yX8_many wsX8_many rm_X8_many (va_Pc [.int a0] (gR (dC, dI) vwCl (gT cI cZ cG) (w_X8_many cI cZ cG))) (vp_Si (fun r => r = r0)) 0 0 (fun _ => False) := by
  refine Met.ofW (cc := cX8_many) (maxL := 3) (ret := (some .int)) (by decide) rfl ?_
  intro p e s m args below meth c s₁ B hml hv
  obtain ⟨rfl, hv⟩ := hv
  obtain ⟨hP, hK, hN⟩ := hv
  have hx := B.exec
  have hb := B.bytes
  have hr := B.returns
  have hts := atoms_spec (ws := wsX8_many) B.pre
  have hown : s.vm.findClass RX8 = some m.cls := findClass_of_methodNamed B.named
  have hlocks := B.notSynchronized
  obtain ⟨Q, hQ⟩ : ∃ Q : State → Prop, Q = MQ below (vp_Si (fun r => r = r0)) (([Value.int a0] : List Value).toArray) s 0 0 (fun _ => False) := ⟨_, rfl⟩
  have hl := lv_entry ([.int a0]) (n := 3) (Nat.le_of_ble_eq_true rfl)
  rw [← hQ, lg_entry_eq]
  generalize (lg_sl ([.int a0]) ++ List.replicate (3 - (lg_sl ([.int a0])).length) Slot.unset).toArray = ls at hl ⊢
  have hl : lv_has ls 3 [(0, .int a0)] := hl
  show W p l e rm_X8_many s m (([Value.int a0] : List Value).toArray) below meth c s.heap [] 0 0 Q (F0 m 0 ls [])
  have L4 : ∀ (n4 : Nat), ∀ (x1 : Int32) (x2 : Int32) (ls : Array Slot), x8_many_b4 N a0 n4 x1 x2 = some r0 → lv_has ls 3 [(0, .int a0), (1, .int x1), (2, .int x2)] → W p l e rm_X8_many s m (([Value.int a0] : List Value).toArray) below meth c s.heap [] 0 0 Q (F0 m 4 ls []) := by
    intro n4
    induction n4 with
    | zero =>
      intro x1 x2 ls hf hl
      exact g_no hf
    | succ n4 ih4 =>
      intro x1 x2 ls hf hl
      unfold x8_many_b4 at hf
      refine lv_iload_n hx hb dX8_many_4 rfl (lv_at hl 2 rfl) ?_
      refine lv_bipush (v := (8 : Int32)) hx hb dX8_many_5 (by decide +kernel) ?_
      refine lv_icmp_ge (tgt := 24) hx hb dX8_many_7 (by decide) (fun c1 => ?_) (fun c1 => ?_)
      · have hf := g_pos c1 hf
        refine lv_iload_n hx hb dX8_many_24 rfl (lv_at hl 1 rfl) ?_
        rw [hQ]
        exact W.iret (v := x1) hx hb hr (fun t ht hW => ⟨_, rfl, Option.some.inj hf, ht⟩) (fun q h => by cases h) dX8_many_25
      · have hf := g_neg c1 hf
        refine lv_iload_n hx hb dX8_many_10 rfl (lv_at hl 1 rfl) ?_
        refine lv_iload_n hx hb dX8_many_11 rfl (lv_at hl 0 rfl) ?_
        refine lv_iload_n hx hb dX8_many_12 rfl (lv_at hl 2 rfl) ?_
        refine lv_ishr hx hb dX8_many_13 ?_
        refine lv_iconst (v := (1 : Int32)) hx hb dX8_many_14 (by decide) ?_
        refine lv_iand hx hb dX8_many_15 ?_
        refine lv_iadd hx hb dX8_many_16 ?_
        refine lv_istore_n (lv' := [(1, .int (x1 + ((a0 >>> (x2 &&& 31)) &&& (1 : Int32)))), (0, .int a0), (2, .int x2)]) hx hb dX8_many_17 rfl hl (by decide) rfl (fun ls hl => ?_)
        refine lv_iinc (v := (x2 + (1 : Int32))) (lv' := [(2, .int (x2 + (1 : Int32))), (1, .int (x1 + ((a0 >>> (x2 &&& 31)) &&& (1 : Int32)))), (0, .int a0)]) hx hb dX8_many_18 hl (k := 2) rfl rfl (by decide) rfl (fun ls hl => ?_)
        refine lv_goto (tgt := 4) hx hb dX8_many_21 (by decide) ?_
        exact ih4 (x1 + ((a0 >>> (x2 &&& 31)) &&& (1 : Int32))) (x2 + (1 : Int32)) ls hf (lv_sub hl [2, 1, 0] rfl)
  unfold x8_many at hf
  refine lv_iconst (v := (0 : Int32)) hx hb dX8_many_0 (by decide) ?_
  refine lv_istore_n (lv' := [(1, .int (0 : Int32)), (0, .int a0)]) hx hb dX8_many_1 rfl hl (by decide) rfl (fun ls hl => ?_)
  refine lv_iconst (v := (0 : Int32)) hx hb dX8_many_2 (by decide) ?_
  refine lv_istore_n (lv' := [(2, .int (0 : Int32)), (1, .int (0 : Int32)), (0, .int a0)]) hx hb dX8_many_3 rfl hl (by decide) rfl (fun ls hl => ?_)
  exact L4 N (0 : Int32) (0 : Int32) ls hf (lv_sub hl [2, 1, 0] rfl)
abbrev rm_X8_power : Room := { frames := 0, cells := 0, slots := 0, locals := 0 }
abbrev w_X8_power (cI cZ cG : ClassId) : va_W := []
set_option maxHeartbeats 4000000 in
set_option maxRecDepth 100000 in
theorem c_X8_power (l : Launch) (dC : Nat → ClassId) (dI : Nat → Nat → Nat) (cI cZ cG : ClassId) {N : Nat} (a0 : Int32) (a1 : Int32) {r0 : Int32} (hf : x8_power N a0 a1 = some r0) : Met l yX8_power wsX8_power rm_X8_power (va_Pc [.int a0, .int a1] (gR (dC, dI) vwCl (gT cI cZ cG) (w_X8_power cI cZ cG))) (vp_Si (fun r => r = r0)) 0 0 (fun _ => False) := by
  refine Met.ofW (cc := cX8_power) (maxL := 4) (ret := (some .int)) (by decide) rfl ?_
  intro p e s m args below meth c s₁ B hml hv
  obtain ⟨rfl, hv⟩ := hv
  obtain ⟨hP, hK, hN⟩ := hv
  have hx := B.exec
  have hb := B.bytes
  have hr := B.returns
  have hts := atoms_spec (ws := wsX8_power) B.pre
  have hown : s.vm.findClass RX8 = some m.cls := findClass_of_methodNamed B.named
  have hlocks := B.notSynchronized
  obtain ⟨Q, hQ⟩ : ∃ Q : State → Prop, Q = MQ below (vp_Si (fun r => r = r0)) (([Value.int a0, Value.int a1] : List Value).toArray) s 0 0 (fun _ => False) := ⟨_, rfl⟩
  have hl := lv_entry ([.int a0, .int a1]) (n := 4) (Nat.le_of_ble_eq_true rfl)
  rw [← hQ, lg_entry_eq]
  generalize (lg_sl ([.int a0, .int a1]) ++ List.replicate (4 - (lg_sl ([.int a0, .int a1])).length) Slot.unset).toArray = ls at hl ⊢
  have hl : lv_has ls 4 [(0, .int a0), (1, .int a1)] := hl
  show W p l e rm_X8_power s m (([Value.int a0, Value.int a1] : List Value).toArray) below meth c s.heap [] 0 0 Q (F0 m 0 ls [])
  have L4 : ∀ (n4 : Nat), ∀ (x2 : Int32) (x3 : Int32) (ls : Array Slot), x8_power_b4 N a0 a1 n4 x2 x3 = some r0 → lv_has ls 4 [(0, .int a0), (1, .int a1), (2, .int x2), (3, .int x3)] → W p l e rm_X8_power s m (([Value.int a0, Value.int a1] : List Value).toArray) below meth c s.heap [] 0 0 Q (F0 m 4 ls []) := by
    intro n4
    induction n4 with
    | zero =>
      intro x2 x3 ls hf hl
      exact g_no hf
    | succ n4 ih4 =>
      intro x2 x3 ls hf hl
      unfold x8_power_b4 at hf
      refine lv_iload_n hx hb dX8_power_4 rfl (lv_at hl 3 rfl) ?_
      refine lv_iload_n hx hb dX8_power_5 rfl (lv_at hl 1 rfl) ?_
      refine lv_icmp_ge (tgt := 19) hx hb dX8_power_6 (by decide) (fun c1 => ?_) (fun c1 => ?_)
      · have hf := g_pos c1 hf
        refine lv_iload_n hx hb dX8_power_19 rfl (lv_at hl 2 rfl) ?_
        rw [hQ]
        exact W.iret (v := x2) hx hb hr (fun t ht hW => ⟨_, rfl, Option.some.inj hf, ht⟩) (fun q h => by cases h) dX8_power_20
      · have hf := g_neg c1 hf
        refine lv_iload_n hx hb dX8_power_9 rfl (lv_at hl 2 rfl) ?_
        refine lv_iload_n hx hb dX8_power_10 rfl (lv_at hl 0 rfl) ?_
        refine lv_imul hx hb dX8_power_11 ?_
        refine lv_istore_n (lv' := [(2, .int (x2 * a0)), (0, .int a0), (1, .int a1), (3, .int x3)]) hx hb dX8_power_12 rfl hl (by decide) rfl (fun ls hl => ?_)
        refine lv_iinc (v := (x3 + (1 : Int32))) (lv' := [(3, .int (x3 + (1 : Int32))), (2, .int (x2 * a0)), (0, .int a0), (1, .int a1)]) hx hb dX8_power_13 hl (k := 3) rfl rfl (by decide) rfl (fun ls hl => ?_)
        refine lv_goto (tgt := 4) hx hb dX8_power_16 (by decide) ?_
        exact ih4 (x2 * a0) (x3 + (1 : Int32)) ls hf (lv_sub hl [2, 3, 1, 0] rfl)
  unfold x8_power at hf
  refine lv_iconst (v := (1 : Int32)) hx hb dX8_power_0 (by decide) ?_
  refine lv_istore_n (lv' := [(2, .int (1 : Int32)), (0, .int a0), (1, .int a1)]) hx hb dX8_power_1 rfl hl (by decide) rfl (fun ls hl => ?_)
  refine lv_iconst (v := (0 : Int32)) hx hb dX8_power_2 (by decide) ?_
  refine lv_istore_n (lv' := [(3, .int (0 : Int32)), (2, .int (1 : Int32)), (0, .int a0), (1, .int a1)]) hx hb dX8_power_3 rfl hl (by decide) rfl (fun ls hl => ?_)
  exact L4 N (1 : Int32) (0 : Int32) ls hf (lv_sub hl [2, 3, 1, 0] rfl)
abbrev rm_X8_noJar : Room := { frames := 1, cells := 0, slots := 0, locals := 25 }
abbrev w_X8_noJar (cI cZ cG : ClassId) (o : Nat) (o_text : Nat) (o_kind : Nat) (o_size : Nat) (o_readJar : Nat) (o_page : Nat) (o_trial : Nat) (o_book : Nat) (o_kept : Nat) (o_isKept : Nat) (o_tastedFrom : Nat) (o_tastedTo : Nat) (o_order : Nat) (o_spots : Nat) (o_gains : Nat) (o_value : Nat) (v_thrown : Int32) (v_textSize : Int32) (v_place : Int32) (v_jars : Int32) (v_readPlaces : Int32) (v_readJars : Int32) (v_acts : Int32) (v_tasted : Int32) (v_seed : Int64) (v_some : Int32) (v_rowMany : Int32) (v_rowWay : Int32) (v_stuffWhich : Int32) (v_stuffNear : Int32) (v_keptMany : Int32) (v_keptFirst : Int32) (v_restMany : Int32) (v_restFirst : Int32) : va_W := [(o, .inr (8, [.int v_thrown, .ref o_text, .int v_textSize, .int v_place, .int v_jars, .ref o_kind, .ref o_size, .int v_readPlaces, .int v_readJars, .ref o_readJar, .ref o_page, .ref o_trial, .ref o_book, .int v_acts, .ref o_kept, .ref o_isKept, .int v_tasted, .ref o_tastedFrom, .ref o_tastedTo, .long v_seed, .int v_some, .ref o_order, .ref o_spots, .int v_rowMany, .int v_rowWay, .int v_stuffWhich, .int v_stuffNear, .int v_keptMany, .int v_keptFirst, .int v_restMany, .int v_restFirst, .ref o_gains, .ref o_value]))]
set_option maxHeartbeats 4000000 in
set_option maxRecDepth 100000 in
theorem c_X8_noJar (l : Launch) (dC : Nat → ClassId) (dI : Nat → Nat → Nat) (cI cZ cG : ClassId) (o : Nat) (o_text : Nat) (o_kind : Nat) (o_size : Nat) (o_readJar : Nat) (o_page : Nat) (o_trial : Nat) (o_book : Nat) (o_kept : Nat) (o_isKept : Nat) (o_tastedFrom : Nat) (o_tastedTo : Nat) (o_order : Nat) (o_spots : Nat) (o_gains : Nat) (o_value : Nat) (v_thrown : Int32) (v_textSize : Int32) (v_place : Int32) (v_jars : Int32) (v_readPlaces : Int32) (v_readJars : Int32) (v_acts : Int32) (v_tasted : Int32) (v_seed : Int64) (v_some : Int32) (v_rowMany : Int32) (v_rowWay : Int32) (v_stuffWhich : Int32) (v_stuffNear : Int32) (v_keptMany : Int32) (v_keptFirst : Int32) (v_restMany : Int32) (v_restFirst : Int32) (a1 : Int32) {r0 : Int32} (hf : x8_noJar v_jars a1 = some r0) : Met l yX8_noJar wsX8_noJar rm_X8_noJar (va_Pc [.ref o, .int a1] (gR (dC, dI) vwCl (gT cI cZ cG) (w_X8_noJar cI cZ cG o o_text o_kind o_size o_readJar o_page o_trial o_book o_kept o_isKept o_tastedFrom o_tastedTo o_order o_spots o_gains o_value v_thrown v_textSize v_place v_jars v_readPlaces v_readJars v_acts v_tasted v_seed v_some v_rowMany v_rowWay v_stuffWhich v_stuffNear v_keptMany v_keptFirst v_restMany v_restFirst))) (vp_Si (fun r => r = r0)) 0 0 (fun _ => False) := by
  refine Met.ofW (cc := cX8_noJar) (maxL := 2) (ret := (some .boolean)) (by decide) rfl ?_
  intro p e s m args below meth c s₁ B hml hv
  obtain ⟨rfl, hv⟩ := hv
  obtain ⟨hP, hK, hN⟩ := hv
  have hx := B.exec
  have hb := B.bytes
  have hr := B.returns
  have hts := atoms_spec (ws := wsX8_noJar) B.pre
  have hown : s.vm.findClass RX8 = some m.cls := findClass_of_methodNamed B.named
  have hlocks := B.notSynchronized
  have hiX8 : ∀ w ∈ u_ws RX8 TX8 33, w ∈ wsX8_noJar := fun w h => List.mem_cons_of_mem _ (List.mem_append_right _ h)
  obtain ⟨Q, hQ⟩ : ∃ Q : State → Prop, Q = MQ below (vp_Si (fun r => r = r0)) (([Value.ref o, Value.int a1] : List Value).toArray) s 0 0 (fun _ => False) := ⟨_, rfl⟩
  have hl := lv_entry ([.ref o, .int a1]) (n := 2) (Nat.le_of_ble_eq_true rfl)
  rw [← hQ, lg_entry_eq]
  generalize (lg_sl ([.ref o, .int a1]) ++ List.replicate (2 - (lg_sl ([.ref o, .int a1])).length) Slot.unset).toArray = ls at hl ⊢
  have hl : lv_has ls 2 [(0, .ref o), (1, .int a1)] := hl
  show W p l e rm_X8_noJar s m (([Value.ref o, Value.int a1] : List Value).toArray) below meth c s.heap [] 0 0 Q (F0 m 0 ls [])
  unfold x8_noJar at hf
  refine lv_iload_n hx hb dX8_noJar_0 rfl (lv_at hl 1 rfl) ?_
  refine lv_i2l hx hb dX8_noJar_1 rfl ?_
  refine lv_lconst (v := (0 : Int64)) hx hb dX8_noJar_2 (by decide) ?_
  refine lv_aload_n hx hb dX8_noJar_3 rfl (lv_at hl 0 rfl) ?_
  refine va_get (D := (dC, dI)) (ci := 8) (v := .int v_jars) (C := RX8) (T := TX8) (N := 33) hx hb hts hiX8 hown hK hP 0 rfl rfl 4 (by decide) (hts (.fieldLink RX8 60 "GreenJarsModel" "jars" "I") (by decide +kernel)) (fun _ h9 => h9) rfl dX8_noJar_4 ?_
  refine lv_iconst (v := (1 : Int32)) hx hb dX8_noJar_7 (by decide) ?_
  refine lv_isub hx hb dX8_noJar_8 ?_
  refine lv_i2l hx hb dX8_noJar_9 rfl ?_
  obtain ⟨r1, hc2, hf⟩ := g_b1 hf
  refine g_rS (As := [.long a1.toInt64, .long (0 : Int64), .long ((v_jars - (1 : Int32)).toInt64)]) (rest := []) ⟨hx, hb, hml, hown, hts⟩ (c_X8_in l dC dI cI cZ cG    a1.toInt64 (0 : Int64) ((v_jars - (1 : Int32)).toInt64) hc2) (va_cwS 3 hts gX8_noJar_X8_in rfl rfl rfl (by decide +kernel) ⟨Nat.le_of_ble_eq_true rfl, Nat.le_of_ble_eq_true rfl⟩) hK hN (hP.sub [] rfl) rfl hl.1 rfl (Nat.le_of_ble_eq_true rfl) dX8_noJar_10 ⟨Nat.zero_le _, Nat.zero_le _⟩ ?_
  refine lv_if_ne (tgt := 20) hx hb dX8_noJar_13 (by decide) (fun c3 => ?_) (fun c3 => ?_)
  · have hf := g_neg c3 hf
    refine lv_iconst (v := (0 : Int32)) hx hb dX8_noJar_20 (by decide) ?_
    rw [hQ]
    exact W.zret (v := (0 : Int32)) hx hb hr (by decide +kernel) (fun t ht hW => ⟨_, rfl, Option.some.inj hf, ht⟩) (fun q h => by cases h) dX8_noJar_21
  · have hf := g_pos c3 hf
    refine lv_iconst (v := (1 : Int32)) hx hb dX8_noJar_16 (by decide) ?_
    refine lv_goto (tgt := 21) hx hb dX8_noJar_17 (by decide) ?_
    rw [hQ]
    exact W.zret (v := (1 : Int32)) hx hb hr (by decide +kernel) (fun t ht hW => ⟨_, rfl, Option.some.inj hf, ht⟩) (fun q h => by cases h) dX8_noJar_21
abbrev rm_X8_write : Room := { frames := 1, cells := 0, slots := 0, locals := 25 }
abbrev w_X8_write (cI cZ cG : ClassId) (o : Nat) (o_text : Nat) (o_kind : Nat) (o_size : Nat) (o_readJar : Nat) (o_page : Nat) (o_trial : Nat) (o_book : Nat) (o_kept : Nat) (o_isKept : Nat) (o_tastedFrom : Nat) (o_tastedTo : Nat) (o_order : Nat) (o_spots : Nat) (o_gains : Nat) (o_value : Nat) (v_thrown : Int32) (v_textSize : Int32) (v_place : Int32) (v_jars : Int32) (v_readPlaces : Int32) (v_readJars : Int32) (v_acts : Int32) (v_tasted : Int32) (v_seed : Int64) (v_some : Int32) (v_rowMany : Int32) (v_rowWay : Int32) (v_stuffWhich : Int32) (v_stuffNear : Int32) (v_keptMany : Int32) (v_keptFirst : Int32) (v_restMany : Int32) (v_restFirst : Int32) (f_text : Nat → Int32) : va_W := [(o, .inr (8, [.int v_thrown, .ref o_text, .int v_textSize, .int v_place, .int v_jars, .ref o_kind, .ref o_size, .int v_readPlaces, .int v_readJars, .ref o_readJar, .ref o_page, .ref o_trial, .ref o_book, .int v_acts, .ref o_kept, .ref o_isKept, .int v_tasted, .ref o_tastedFrom, .ref o_tastedTo, .long v_seed, .int v_some, .ref o_order, .ref o_spots, .int v_rowMany, .int v_rowWay, .int v_stuffWhich, .int v_stuffNear, .int v_keptMany, .int v_keptFirst, .int v_restMany, .int v_restFirst, .ref o_gains, .ref o_value])), (o_text, .inl (cI, 48, .inl f_text))]
set_option maxHeartbeats 4000000 in
set_option maxRecDepth 100000 in
theorem c_X8_write (l : Launch) (dC : Nat → ClassId) (dI : Nat → Nat → Nat) (cI cZ cG : ClassId) (o : Nat) (o_text : Nat) (o_kind : Nat) (o_size : Nat) (o_readJar : Nat) (o_page : Nat) (o_trial : Nat) (o_book : Nat) (o_kept : Nat) (o_isKept : Nat) (o_tastedFrom : Nat) (o_tastedTo : Nat) (o_order : Nat) (o_spots : Nat) (o_gains : Nat) (o_value : Nat) (sz : Nat) (v_thrown : Int32) (v_textSize : Int32) (v_place : Int32) (v_jars : Int32) (v_readPlaces : Int32) (v_readJars : Int32) (v_acts : Int32) (v_tasted : Int32) (v_seed : Int64) (v_some : Int32) (v_rowMany : Int32) (v_rowWay : Int32) (v_stuffWhich : Int32) (v_stuffNear : Int32) (v_keptMany : Int32) (v_keptFirst : Int32) (v_restMany : Int32) (v_restFirst : Int32) (f_text : Nat → Int32) (a1 : Int32) {r0 : Int32} {n_thrown : Int32} {n_textSize : Int32} {n_text : Nat → Int32} (hf : x8_write v_thrown v_textSize f_text a1 = some (r0, n_thrown, n_textSize, n_text)) : Met l yX8_write wsX8_write rm_X8_write (va_Pc [.ref o, .int a1] (gW (dC, dI) vwCl (gT cI cZ cG) (w_X8_write cI cZ cG o o_text o_kind o_size o_readJar o_page o_trial o_book o_kept o_isKept o_tastedFrom o_tastedTo o_order o_spots o_gains o_value v_thrown v_textSize v_place v_jars v_readPlaces v_readJars v_acts v_tasted v_seed v_some v_rowMany v_rowWay v_stuffWhich v_stuffNear v_keptMany v_keptFirst v_restMany v_restFirst f_text) sz)) (va_Qi (fun r _ => r = r0) (gE (dC, dI) vwCl (gT cI cZ cG) (w_X8_write cI cZ cG o o_text o_kind o_size o_readJar o_page o_trial o_book o_kept o_isKept o_tastedFrom o_tastedTo o_order o_spots o_gains o_value n_thrown n_textSize v_place v_jars v_readPlaces v_readJars v_acts v_tasted v_seed v_some v_rowMany v_rowWay v_stuffWhich v_stuffNear v_keptMany v_keptFirst v_restMany v_restFirst n_text) (va_A (w_X8_write cI cZ cG o o_text o_kind o_size o_readJar o_page o_trial o_book o_kept o_isKept o_tastedFrom o_tastedTo o_order o_spots o_gains o_value v_thrown v_textSize v_place v_jars v_readPlaces v_readJars v_acts v_tasted v_seed v_some v_rowMany v_rowWay v_stuffWhich v_stuffNear v_keptMany v_keptFirst v_restMany v_restFirst f_text) sz)) (va_A (w_X8_write cI cZ cG o o_text o_kind o_size o_readJar o_page o_trial o_book o_kept o_isKept o_tastedFrom o_tastedTo o_order o_spots o_gains o_value v_thrown v_textSize v_place v_jars v_readPlaces v_readJars v_acts v_tasted v_seed v_some v_rowMany v_rowWay v_stuffWhich v_stuffNear v_keptMany v_keptFirst v_restMany v_restFirst f_text) sz)) 0 0 (va_A (w_X8_write cI cZ cG o o_text o_kind o_size o_readJar o_page o_trial o_book o_kept o_isKept o_tastedFrom o_tastedTo o_order o_spots o_gains o_value v_thrown v_textSize v_place v_jars v_readPlaces v_readJars v_acts v_tasted v_seed v_some v_rowMany v_rowWay v_stuffWhich v_stuffNear v_keptMany v_keptFirst v_restMany v_restFirst f_text) sz) := by
  refine Met.ofW (cc := cX8_write) (maxL := 2) (ret := (some .int)) (by decide) rfl ?_
  intro p e s m args below meth c s₁ B hml hv
  obtain ⟨rfl, hv⟩ := hv
  obtain ⟨hsz, hP, hK, hN, hD0⟩ := hv
  have hx := B.exec
  have hb := B.bytes
  have hr := B.returns
  have hts := atoms_spec (ws := wsX8_write) B.pre
  have hown : s.vm.findClass RX8 = some m.cls := findClass_of_methodNamed B.named
  have hlocks := B.notSynchronized
  have hiX8 : ∀ w ∈ u_ws RX8 TX8 33, w ∈ wsX8_write := fun w h => List.mem_cons_of_mem _ (List.mem_append_right _ h)
  subst hsz
  have hD := hD0.self (sz := s.heap.size)
  generalize hAe : va_A (w_X8_write cI cZ cG o o_text o_kind o_size o_readJar o_page o_trial o_book o_kept o_isKept o_tastedFrom o_tastedTo o_order o_spots o_gains o_value v_thrown v_textSize v_place v_jars v_readPlaces v_readJars v_acts v_tasted v_seed v_some v_rowMany v_rowWay v_stuffWhich v_stuffNear v_keptMany v_keptFirst v_restMany v_restFirst f_text) s.heap.size = A at hD ⊢
  have hA : ∀ q : Nat, s.heap.size ≤ q → A q := fun q h => by rw [← hAe]; exact Or.inr h
  clear hD0
  have hS : va_S A s.heap s.heap [] := va_S.rf
  have hP : va_P (dC, dI) vwCl (w_X8_write cI cZ cG o o_text o_kind o_size o_readJar o_page o_trial o_book o_kept o_isKept o_tastedFrom o_tastedTo o_order o_spots o_gains o_value v_thrown v_textSize v_place v_jars v_readPlaces v_readJars v_acts v_tasted v_seed v_some v_rowMany v_rowWay v_stuffWhich v_stuffNear v_keptMany v_keptFirst v_restMany v_restFirst f_text) s.heap := hP
  obtain ⟨Q, hQ⟩ : ∃ Q : State → Prop, Q = MQ below (va_Qi (fun r _ => r = r0) (gE (dC, dI) vwCl (gT cI cZ cG) (w_X8_write cI cZ cG o o_text o_kind o_size o_readJar o_page o_trial o_book o_kept o_isKept o_tastedFrom o_tastedTo o_order o_spots o_gains o_value n_thrown n_textSize v_place v_jars v_readPlaces v_readJars v_acts v_tasted v_seed v_some v_rowMany v_rowWay v_stuffWhich v_stuffNear v_keptMany v_keptFirst v_restMany v_restFirst n_text) A) A) (([Value.ref o, Value.int a1] : List Value).toArray) s 0 0 A := ⟨_, rfl⟩
  have hl := lv_entry ([.ref o, .int a1]) (n := 2) (Nat.le_of_ble_eq_true rfl)
  rw [← hQ, lg_entry_eq]
  generalize (lg_sl ([.ref o, .int a1]) ++ List.replicate (2 - (lg_sl ([.ref o, .int a1])).length) Slot.unset).toArray = ls at hl ⊢
  have hl : lv_has ls 2 [(0, .ref o), (1, .int a1)] := hl
  generalize hH : s.heap = H at hP hS ⊢
  have hS : va_S A s.heap H [] := by rw [hH]; exact hS
  generalize hlc : ([] : List Loc) = locs at hS ⊢
  show W p l e rm_X8_write s m (([Value.ref o, Value.int a1] : List Value).toArray) below meth c H locs 0 0 Q (F0 m 0 ls [])
  unfold x8_write at hf
  refine lv_aload_n hx hb dX8_write_0 rfl (lv_at hl 0 rfl) ?_
  refine lv_iconst (v := (0 : Int32)) hx hb dX8_write_1 (by decide) ?_
  refine va_put (D := (dC, dI)) (ci := 8) (v := .int (0 : Int32)) (ty := .int) (C := RX8) (T := TX8) (N := 33) hx hb hts hiX8 tyX8 tyX8_ok nmX8 hown hK hP hD hS 0 rfl rfl 0 (by decide) (hts (.fieldLink RX8 56 "GreenJarsModel" "thrown" "I") (by decide +kernel)) (fun _ h9 => h9) rfl (by decide +kernel) rfl rfl (Nat.le_of_ble_eq_true rfl) dX8_write_2 (fun H locs hP hD hS => ?_)
  have hP : va_P (dC, dI) vwCl (w_X8_write cI cZ cG o o_text o_kind o_size o_readJar o_page o_trial o_book o_kept o_isKept o_tastedFrom o_tastedTo o_order o_spots o_gains o_value (0 : Int32) v_textSize v_place v_jars v_readPlaces v_readJars v_acts v_tasted v_seed v_some v_rowMany v_rowWay v_stuffWhich v_stuffNear v_keptMany v_keptFirst v_restMany v_restFirst f_text) H := hP
  have hD : va_D A (w_X8_write cI cZ cG o o_text o_kind o_size o_readJar o_page o_trial o_book o_kept o_isKept o_tastedFrom o_tastedTo o_order o_spots o_gains o_value (0 : Int32) v_textSize v_place v_jars v_readPlaces v_readJars v_acts v_tasted v_seed v_some v_rowMany v_rowWay v_stuffWhich v_stuffNear v_keptMany v_keptFirst v_restMany v_restFirst f_text) := hD
  refine lv_iload_n hx hb dX8_write_5 rfl (lv_at hl 1 rfl) ?_
  refine lv_i2l hx hb dX8_write_6 rfl ?_
  refine lv_lconst (v := (0 : Int64)) hx hb dX8_write_7 (by decide) ?_
  refine lv_ldc2 (v := (255 : Int64)) hx hb hown (hts (.constantLong RX8 67 (255 : Int64)) (by decide +kernel)) dX8_write_8 ?_
  obtain ⟨r1, hc2, hf⟩ := g_b1 hf
  refine g_rS (As := [.long a1.toInt64, .long (0 : Int64), .long (255 : Int64)]) (rest := []) ⟨hx, hb, hml, hown, hts⟩ (c_X8_in l dC dI cI cZ cG    a1.toInt64 (0 : Int64) (255 : Int64) hc2) (va_cwS 3 hts gX8_write_X8_in rfl rfl rfl (by decide +kernel) ⟨Nat.le_of_ble_eq_true rfl, Nat.le_of_ble_eq_true rfl⟩) hK hN (hP.sub [] rfl) rfl hl.1 rfl (Nat.le_of_ble_eq_true rfl) dX8_write_11 ⟨Nat.zero_le _, Nat.zero_le _⟩ ?_
  refine lv_if_ne (tgt := 20) hx hb dX8_write_14 (by decide) (fun c3 => ?_) (fun c3 => ?_)
  · have hf := g_neg c3 hf
    refine lv_aload_n hx hb dX8_write_20 rfl (lv_at hl 0 rfl) ?_
    refine va_get (D := (dC, dI)) (ci := 8) (v := .int v_textSize) (C := RX8) (T := TX8) (N := 33) hx hb hts hiX8 hown hK hP 0 rfl rfl 2 (by decide) (hts (.fieldLink RX8 69 "GreenJarsModel" "textSize" "I") (by decide +kernel)) (fun _ h9 => h9) rfl dX8_write_21 ?_
    refine lv_bipush (v := (48 : Int32)) hx hb dX8_write_24 (by decide +kernel) ?_
    refine lv_icmp_ne (tgt := 32) hx hb dX8_write_26 (by decide) (fun c4 => ?_) (fun c4 => ?_)
    · have hf := g_neg c4 hf
      refine lv_aload_n hx hb dX8_write_32 rfl (lv_at hl 0 rfl) ?_
      refine va_get (D := (dC, dI)) (ci := 8) (v := .ref o_text) (C := RX8) (T := TX8) (N := 33) hx hb hts hiX8 hown hK hP 0 rfl rfl 1 (by decide) (hts (.fieldLink RX8 7 "GreenJarsModel" "text" "[I") (by decide +kernel)) (fun _ h9 => h9) rfl dX8_write_33 ?_
      refine lv_aload_n hx hb dX8_write_36 rfl (lv_at hl 0 rfl) ?_
      refine va_get (D := (dC, dI)) (ci := 8) (v := .int v_textSize) (C := RX8) (T := TX8) (N := 33) hx hb hts hiX8 hown hK hP 0 rfl rfl 2 (by decide) (hts (.fieldLink RX8 69 "GreenJarsModel" "textSize" "I") (by decide +kernel)) (fun _ h9 => h9) rfl dX8_write_37 ?_
      refine lv_iload_n hx hb dX8_write_40 rfl (lv_at hl 1 rfl) ?_
      obtain ⟨h5, hf⟩ := g_chk hf
      refine va_iast hx hb hK hP hD hS 1 0 rfl rfl (gIn_vp h5) dX8_write_41 (fun H locs hP hD hS => ?_)
      have hP : va_P (dC, dI) vwCl (w_X8_write cI cZ cG o o_text o_kind o_size o_readJar o_page o_trial o_book o_kept o_isKept o_tastedFrom o_tastedTo o_order o_spots o_gains o_value (0 : Int32) v_textSize v_place v_jars v_readPlaces v_readJars v_acts v_tasted v_seed v_some v_rowMany v_rowWay v_stuffWhich v_stuffNear v_keptMany v_keptFirst v_restMany v_restFirst (upd f_text v_textSize.toNatClampNeg a1)) H := hP
      have hD : va_D A (w_X8_write cI cZ cG o o_text o_kind o_size o_readJar o_page o_trial o_book o_kept o_isKept o_tastedFrom o_tastedTo o_order o_spots o_gains o_value (0 : Int32) v_textSize v_place v_jars v_readPlaces v_readJars v_acts v_tasted v_seed v_some v_rowMany v_rowWay v_stuffWhich v_stuffNear v_keptMany v_keptFirst v_restMany v_restFirst (upd f_text v_textSize.toNatClampNeg a1)) := hD
      refine lv_aload_n hx hb dX8_write_42 rfl (lv_at hl 0 rfl) ?_
      refine lv_dup hx hb dX8_write_43 rfl ?_
      refine va_get (D := (dC, dI)) (ci := 8) (v := .int v_textSize) (C := RX8) (T := TX8) (N := 33) hx hb hts hiX8 hown hK hP 0 rfl rfl 2 (by decide) (hts (.fieldLink RX8 69 "GreenJarsModel" "textSize" "I") (by decide +kernel)) (fun _ h9 => h9) rfl dX8_write_44 ?_
      refine lv_iconst (v := (1 : Int32)) hx hb dX8_write_47 (by decide) ?_
      refine lv_iadd hx hb dX8_write_48 ?_
      refine va_put (D := (dC, dI)) (ci := 8) (v := .int (v_textSize + (1 : Int32))) (ty := .int) (C := RX8) (T := TX8) (N := 33) hx hb hts hiX8 tyX8 tyX8_ok nmX8 hown hK hP hD hS 0 rfl rfl 2 (by decide) (hts (.fieldLink RX8 69 "GreenJarsModel" "textSize" "I") (by decide +kernel)) (fun _ h9 => h9) rfl (by decide +kernel) rfl rfl (Nat.le_of_ble_eq_true rfl) dX8_write_49 (fun H locs hP hD hS => ?_)
      have hP : va_P (dC, dI) vwCl (w_X8_write cI cZ cG o o_text o_kind o_size o_readJar o_page o_trial o_book o_kept o_isKept o_tastedFrom o_tastedTo o_order o_spots o_gains o_value (0 : Int32) (v_textSize + (1 : Int32)) v_place v_jars v_readPlaces v_readJars v_acts v_tasted v_seed v_some v_rowMany v_rowWay v_stuffWhich v_stuffNear v_keptMany v_keptFirst v_restMany v_restFirst (upd f_text v_textSize.toNatClampNeg a1)) H := hP
      have hD : va_D A (w_X8_write cI cZ cG o o_text o_kind o_size o_readJar o_page o_trial o_book o_kept o_isKept o_tastedFrom o_tastedTo o_order o_spots o_gains o_value (0 : Int32) (v_textSize + (1 : Int32)) v_place v_jars v_readPlaces v_readJars v_acts v_tasted v_seed v_some v_rowMany v_rowWay v_stuffWhich v_stuffNear v_keptMany v_keptFirst v_restMany v_restFirst (upd f_text v_textSize.toNatClampNeg a1)) := hD
      refine lv_aload_n hx hb dX8_write_52 rfl (lv_at hl 0 rfl) ?_
      refine va_get (D := (dC, dI)) (ci := 8) (v := .int (v_textSize + (1 : Int32))) (C := RX8) (T := TX8) (N := 33) hx hb hts hiX8 hown hK hP 0 rfl rfl 2 (by decide) (hts (.fieldLink RX8 69 "GreenJarsModel" "textSize" "I") (by decide +kernel)) (fun _ h9 => h9) rfl dX8_write_53 ?_
      rw [hQ]
      cases hf
      exact W.iret hx hb hr (fun t ht hW => ⟨⟨_, (), rfl, rfl, by rw [ht]; exact hP, va_K.moved hW.alike hK, hD⟩, hS.F ht⟩) hS.2.2 dX8_write_56
    · have hf := g_pos c4 hf
      refine lv_bipush (v := (-4 : Int32)) hx hb dX8_write_29 (by decide +kernel) ?_
      rw [hQ]
      cases hf
      exact W.iret hx hb hr (fun t ht hW => ⟨⟨_, (), rfl, rfl, by rw [ht]; exact hP, va_K.moved hW.alike hK, hD⟩, hS.F ht⟩) hS.2.2 dX8_write_31
  · have hf := g_pos c3 hf
    refine lv_bipush (v := (-2 : Int32)) hx hb dX8_write_17 (by decide +kernel) ?_
    rw [hQ]
    cases hf
    exact W.iret hx hb hr (fun t ht hW => ⟨⟨_, (), rfl, rfl, by rw [ht]; exact hP, va_K.moved hW.alike hK, hD⟩, hS.F ht⟩) hS.2.2 dX8_write_19
abbrev rm_X8_wipe : Room := { frames := 0, cells := 0, slots := 0, locals := 0 }
abbrev w_X8_wipe (cI cZ cG : ClassId) (o : Nat) (o_text : Nat) (o_kind : Nat) (o_size : Nat) (o_readJar : Nat) (o_page : Nat) (o_trial : Nat) (o_book : Nat) (o_kept : Nat) (o_isKept : Nat) (o_tastedFrom : Nat) (o_tastedTo : Nat) (o_order : Nat) (o_spots : Nat) (o_gains : Nat) (o_value : Nat) (v_thrown : Int32) (v_textSize : Int32) (v_place : Int32) (v_jars : Int32) (v_readPlaces : Int32) (v_readJars : Int32) (v_acts : Int32) (v_tasted : Int32) (v_seed : Int64) (v_some : Int32) (v_rowMany : Int32) (v_rowWay : Int32) (v_stuffWhich : Int32) (v_stuffNear : Int32) (v_keptMany : Int32) (v_keptFirst : Int32) (v_restMany : Int32) (v_restFirst : Int32) : va_W := [(o, .inr (8, [.int v_thrown, .ref o_text, .int v_textSize, .int v_place, .int v_jars, .ref o_kind, .ref o_size, .int v_readPlaces, .int v_readJars, .ref o_readJar, .ref o_page, .ref o_trial, .ref o_book, .int v_acts, .ref o_kept, .ref o_isKept, .int v_tasted, .ref o_tastedFrom, .ref o_tastedTo, .long v_seed, .int v_some, .ref o_order, .ref o_spots, .int v_rowMany, .int v_rowWay, .int v_stuffWhich, .int v_stuffNear, .int v_keptMany, .int v_keptFirst, .int v_restMany, .int v_restFirst, .ref o_gains, .ref o_value]))]
set_option maxHeartbeats 4000000 in
set_option maxRecDepth 100000 in
theorem c_X8_wipe (l : Launch) (dC : Nat → ClassId) (dI : Nat → Nat → Nat) (cI cZ cG : ClassId) (o : Nat) (o_text : Nat) (o_kind : Nat) (o_size : Nat) (o_readJar : Nat) (o_page : Nat) (o_trial : Nat) (o_book : Nat) (o_kept : Nat) (o_isKept : Nat) (o_tastedFrom : Nat) (o_tastedTo : Nat) (o_order : Nat) (o_spots : Nat) (o_gains : Nat) (o_value : Nat) (sz : Nat) (v_thrown : Int32) (v_textSize : Int32) (v_place : Int32) (v_jars : Int32) (v_readPlaces : Int32) (v_readJars : Int32) (v_acts : Int32) (v_tasted : Int32) (v_seed : Int64) (v_some : Int32) (v_rowMany : Int32) (v_rowWay : Int32) (v_stuffWhich : Int32) (v_stuffNear : Int32) (v_keptMany : Int32) (v_keptFirst : Int32) (v_restMany : Int32) (v_restFirst : Int32) {r0 : Int32} {n_thrown : Int32} {n_textSize : Int32} (hf : x8_wipe v_thrown v_textSize = some (r0, n_thrown, n_textSize)) : Met l yX8_wipe wsX8_wipe rm_X8_wipe (va_Pc [.ref o] (gW (dC, dI) vwCl (gT cI cZ cG) (w_X8_wipe cI cZ cG o o_text o_kind o_size o_readJar o_page o_trial o_book o_kept o_isKept o_tastedFrom o_tastedTo o_order o_spots o_gains o_value v_thrown v_textSize v_place v_jars v_readPlaces v_readJars v_acts v_tasted v_seed v_some v_rowMany v_rowWay v_stuffWhich v_stuffNear v_keptMany v_keptFirst v_restMany v_restFirst) sz)) (va_Qi (fun r _ => r = r0) (gE (dC, dI) vwCl (gT cI cZ cG) (w_X8_wipe cI cZ cG o o_text o_kind o_size o_readJar o_page o_trial o_book o_kept o_isKept o_tastedFrom o_tastedTo o_order o_spots o_gains o_value n_thrown n_textSize v_place v_jars v_readPlaces v_readJars v_acts v_tasted v_seed v_some v_rowMany v_rowWay v_stuffWhich v_stuffNear v_keptMany v_keptFirst v_restMany v_restFirst) (va_A (w_X8_wipe cI cZ cG o o_text o_kind o_size o_readJar o_page o_trial o_book o_kept o_isKept o_tastedFrom o_tastedTo o_order o_spots o_gains o_value v_thrown v_textSize v_place v_jars v_readPlaces v_readJars v_acts v_tasted v_seed v_some v_rowMany v_rowWay v_stuffWhich v_stuffNear v_keptMany v_keptFirst v_restMany v_restFirst) sz)) (va_A (w_X8_wipe cI cZ cG o o_text o_kind o_size o_readJar o_page o_trial o_book o_kept o_isKept o_tastedFrom o_tastedTo o_order o_spots o_gains o_value v_thrown v_textSize v_place v_jars v_readPlaces v_readJars v_acts v_tasted v_seed v_some v_rowMany v_rowWay v_stuffWhich v_stuffNear v_keptMany v_keptFirst v_restMany v_restFirst) sz)) 0 0 (va_A (w_X8_wipe cI cZ cG o o_text o_kind o_size o_readJar o_page o_trial o_book o_kept o_isKept o_tastedFrom o_tastedTo o_order o_spots o_gains o_value v_thrown v_textSize v_place v_jars v_readPlaces v_readJars v_acts v_tasted v_seed v_some v_rowMany v_rowWay v_stuffWhich v_stuffNear v_keptMany v_keptFirst v_restMany v_restFirst) sz) := by
  refine Met.ofW (cc := cX8_wipe) (maxL := 2) (ret := (some .int)) (by decide) rfl ?_
  intro p e s m args below meth c s₁ B hml hv
  obtain ⟨rfl, hv⟩ := hv
  obtain ⟨hsz, hP, hK, hN, hD0⟩ := hv
  have hx := B.exec
  have hb := B.bytes
  have hr := B.returns
  have hts := atoms_spec (ws := wsX8_wipe) B.pre
  have hown : s.vm.findClass RX8 = some m.cls := findClass_of_methodNamed B.named
  have hlocks := B.notSynchronized
  have hiX8 : ∀ w ∈ u_ws RX8 TX8 33, w ∈ wsX8_wipe := fun w h => List.mem_cons_of_mem _ (List.mem_append_right _ h)
  subst hsz
  have hD := hD0.self (sz := s.heap.size)
  generalize hAe : va_A (w_X8_wipe cI cZ cG o o_text o_kind o_size o_readJar o_page o_trial o_book o_kept o_isKept o_tastedFrom o_tastedTo o_order o_spots o_gains o_value v_thrown v_textSize v_place v_jars v_readPlaces v_readJars v_acts v_tasted v_seed v_some v_rowMany v_rowWay v_stuffWhich v_stuffNear v_keptMany v_keptFirst v_restMany v_restFirst) s.heap.size = A at hD ⊢
  have hA : ∀ q : Nat, s.heap.size ≤ q → A q := fun q h => by rw [← hAe]; exact Or.inr h
  clear hD0
  have hS : va_S A s.heap s.heap [] := va_S.rf
  have hP : va_P (dC, dI) vwCl (w_X8_wipe cI cZ cG o o_text o_kind o_size o_readJar o_page o_trial o_book o_kept o_isKept o_tastedFrom o_tastedTo o_order o_spots o_gains o_value v_thrown v_textSize v_place v_jars v_readPlaces v_readJars v_acts v_tasted v_seed v_some v_rowMany v_rowWay v_stuffWhich v_stuffNear v_keptMany v_keptFirst v_restMany v_restFirst) s.heap := hP
  obtain ⟨Q, hQ⟩ : ∃ Q : State → Prop, Q = MQ below (va_Qi (fun r _ => r = r0) (gE (dC, dI) vwCl (gT cI cZ cG) (w_X8_wipe cI cZ cG o o_text o_kind o_size o_readJar o_page o_trial o_book o_kept o_isKept o_tastedFrom o_tastedTo o_order o_spots o_gains o_value n_thrown n_textSize v_place v_jars v_readPlaces v_readJars v_acts v_tasted v_seed v_some v_rowMany v_rowWay v_stuffWhich v_stuffNear v_keptMany v_keptFirst v_restMany v_restFirst) A) A) (([Value.ref o] : List Value).toArray) s 0 0 A := ⟨_, rfl⟩
  have hl := lv_entry ([.ref o]) (n := 2) (Nat.le_of_ble_eq_true rfl)
  rw [← hQ, lg_entry_eq]
  generalize (lg_sl ([.ref o]) ++ List.replicate (2 - (lg_sl ([.ref o])).length) Slot.unset).toArray = ls at hl ⊢
  have hl : lv_has ls 2 [(0, .ref o)] := hl
  generalize hH : s.heap = H at hP hS ⊢
  have hS : va_S A s.heap H [] := by rw [hH]; exact hS
  generalize hlc : ([] : List Loc) = locs at hS ⊢
  show W p l e rm_X8_wipe s m (([Value.ref o] : List Value).toArray) below meth c H locs 0 0 Q (F0 m 0 ls [])
  unfold x8_wipe at hf
  refine lv_aload_n hx hb dX8_wipe_0 rfl (lv_at hl 0 rfl) ?_
  refine lv_iconst (v := (0 : Int32)) hx hb dX8_wipe_1 (by decide) ?_
  refine va_put (D := (dC, dI)) (ci := 8) (v := .int (0 : Int32)) (ty := .int) (C := RX8) (T := TX8) (N := 33) hx hb hts hiX8 tyX8 tyX8_ok nmX8 hown hK hP hD hS 0 rfl rfl 0 (by decide) (hts (.fieldLink RX8 56 "GreenJarsModel" "thrown" "I") (by decide +kernel)) (fun _ h9 => h9) rfl (by decide +kernel) rfl rfl (Nat.le_of_ble_eq_true rfl) dX8_wipe_2 (fun H locs hP hD hS => ?_)
  have hP : va_P (dC, dI) vwCl (w_X8_wipe cI cZ cG o o_text o_kind o_size o_readJar o_page o_trial o_book o_kept o_isKept o_tastedFrom o_tastedTo o_order o_spots o_gains o_value (0 : Int32) v_textSize v_place v_jars v_readPlaces v_readJars v_acts v_tasted v_seed v_some v_rowMany v_rowWay v_stuffWhich v_stuffNear v_keptMany v_keptFirst v_restMany v_restFirst) H := hP
  have hD : va_D A (w_X8_wipe cI cZ cG o o_text o_kind o_size o_readJar o_page o_trial o_book o_kept o_isKept o_tastedFrom o_tastedTo o_order o_spots o_gains o_value (0 : Int32) v_textSize v_place v_jars v_readPlaces v_readJars v_acts v_tasted v_seed v_some v_rowMany v_rowWay v_stuffWhich v_stuffNear v_keptMany v_keptFirst v_restMany v_restFirst) := hD
  refine lv_aload_n hx hb dX8_wipe_5 rfl (lv_at hl 0 rfl) ?_
  refine va_get (D := (dC, dI)) (ci := 8) (v := .int v_textSize) (C := RX8) (T := TX8) (N := 33) hx hb hts hiX8 hown hK hP 0 rfl rfl 2 (by decide) (hts (.fieldLink RX8 69 "GreenJarsModel" "textSize" "I") (by decide +kernel)) (fun _ h9 => h9) rfl dX8_wipe_6 ?_
  refine lv_istore_n (lv' := [(1, .int v_textSize), (0, .ref o)]) hx hb dX8_wipe_9 rfl hl (by decide) rfl (fun ls hl => ?_)
  refine lv_aload_n hx hb dX8_wipe_10 rfl (lv_at hl 1 rfl) ?_
  refine lv_iconst (v := (0 : Int32)) hx hb dX8_wipe_11 (by decide) ?_
  refine va_put (D := (dC, dI)) (ci := 8) (v := .int (0 : Int32)) (ty := .int) (C := RX8) (T := TX8) (N := 33) hx hb hts hiX8 tyX8 tyX8_ok nmX8 hown hK hP hD hS 0 rfl rfl 2 (by decide) (hts (.fieldLink RX8 69 "GreenJarsModel" "textSize" "I") (by decide +kernel)) (fun _ h9 => h9) rfl (by decide +kernel) rfl rfl (Nat.le_of_ble_eq_true rfl) dX8_wipe_12 (fun H locs hP hD hS => ?_)
  have hP : va_P (dC, dI) vwCl (w_X8_wipe cI cZ cG o o_text o_kind o_size o_readJar o_page o_trial o_book o_kept o_isKept o_tastedFrom o_tastedTo o_order o_spots o_gains o_value (0 : Int32) (0 : Int32) v_place v_jars v_readPlaces v_readJars v_acts v_tasted v_seed v_some v_rowMany v_rowWay v_stuffWhich v_stuffNear v_keptMany v_keptFirst v_restMany v_restFirst) H := hP
  have hD : va_D A (w_X8_wipe cI cZ cG o o_text o_kind o_size o_readJar o_page o_trial o_book o_kept o_isKept o_tastedFrom o_tastedTo o_order o_spots o_gains o_value (0 : Int32) (0 : Int32) v_place v_jars v_readPlaces v_readJars v_acts v_tasted v_seed v_some v_rowMany v_rowWay v_stuffWhich v_stuffNear v_keptMany v_keptFirst v_restMany v_restFirst) := hD
  refine lv_iload_n hx hb dX8_wipe_15 rfl (lv_at hl 0 rfl) ?_
  rw [hQ]
  cases hf
  exact W.iret hx hb hr (fun t ht hW => ⟨⟨_, (), rfl, rfl, by rw [ht]; exact hP, va_K.moved hW.alike hK, hD⟩, hS.F ht⟩) hS.2.2 dX8_wipe_16
abbrev rm_X8_figure : Room := { frames := 1, cells := 0, slots := 0, locals := 25 }
abbrev w_X8_figure (cI cZ cG : ClassId) (o : Nat) (o_text : Nat) (o_kind : Nat) (o_size : Nat) (o_readJar : Nat) (o_page : Nat) (o_trial : Nat) (o_book : Nat) (o_kept : Nat) (o_isKept : Nat) (o_tastedFrom : Nat) (o_tastedTo : Nat) (o_order : Nat) (o_spots : Nat) (o_gains : Nat) (o_value : Nat) (v_thrown : Int32) (v_textSize : Int32) (v_place : Int32) (v_jars : Int32) (v_readPlaces : Int32) (v_readJars : Int32) (v_acts : Int32) (v_tasted : Int32) (v_seed : Int64) (v_some : Int32) (v_rowMany : Int32) (v_rowWay : Int32) (v_stuffWhich : Int32) (v_stuffNear : Int32) (v_keptMany : Int32) (v_keptFirst : Int32) (v_restMany : Int32) (v_restFirst : Int32) (f_text : Nat → Int32) : va_W := [(o, .inr (8, [.int v_thrown, .ref o_text, .int v_textSize, .int v_place, .int v_jars, .ref o_kind, .ref o_size, .int v_readPlaces, .int v_readJars, .ref o_readJar, .ref o_page, .ref o_trial, .ref o_book, .int v_acts, .ref o_kept, .ref o_isKept, .int v_tasted, .ref o_tastedFrom, .ref o_tastedTo, .long v_seed, .int v_some, .ref o_order, .ref o_spots, .int v_rowMany, .int v_rowWay, .int v_stuffWhich, .int v_stuffNear, .int v_keptMany, .int v_keptFirst, .int v_restMany, .int v_restFirst, .ref o_gains, .ref o_value])), (o_text, .inl (cI, 48, .inl f_text))]
set_option maxHeartbeats 4000000 in
set_option maxRecDepth 100000 in
theorem c_X8_figure (l : Launch) (dC : Nat → ClassId) (dI : Nat → Nat → Nat) (cI cZ cG : ClassId) (o : Nat) (o_text : Nat) (o_kind : Nat) (o_size : Nat) (o_readJar : Nat) (o_page : Nat) (o_trial : Nat) (o_book : Nat) (o_kept : Nat) (o_isKept : Nat) (o_tastedFrom : Nat) (o_tastedTo : Nat) (o_order : Nat) (o_spots : Nat) (o_gains : Nat) (o_value : Nat) (sz : Nat) (v_thrown : Int32) (v_textSize : Int32) (v_place : Int32) (v_jars : Int32) (v_readPlaces : Int32) (v_readJars : Int32) (v_acts : Int32) (v_tasted : Int32) (v_seed : Int64) (v_some : Int32) (v_rowMany : Int32) (v_rowWay : Int32) (v_stuffWhich : Int32) (v_stuffNear : Int32) (v_keptMany : Int32) (v_keptFirst : Int32) (v_restMany : Int32) (v_restFirst : Int32) (f_text : Nat → Int32) (a1 : Int32) (a2 : Int32) {r0 : Int32} {n_place : Int32} (hf : x8_figure v_textSize v_place f_text a1 a2 = some (r0, n_place)) : Met l yX8_figure wsX8_figure rm_X8_figure (va_Pc [.ref o, .int a1, .int a2] (gW (dC, dI) vwCl (gT cI cZ cG) (w_X8_figure cI cZ cG o o_text o_kind o_size o_readJar o_page o_trial o_book o_kept o_isKept o_tastedFrom o_tastedTo o_order o_spots o_gains o_value v_thrown v_textSize v_place v_jars v_readPlaces v_readJars v_acts v_tasted v_seed v_some v_rowMany v_rowWay v_stuffWhich v_stuffNear v_keptMany v_keptFirst v_restMany v_restFirst f_text) sz)) (va_Qi (fun r _ => r = r0) (gE (dC, dI) vwCl (gT cI cZ cG) (w_X8_figure cI cZ cG o o_text o_kind o_size o_readJar o_page o_trial o_book o_kept o_isKept o_tastedFrom o_tastedTo o_order o_spots o_gains o_value v_thrown v_textSize n_place v_jars v_readPlaces v_readJars v_acts v_tasted v_seed v_some v_rowMany v_rowWay v_stuffWhich v_stuffNear v_keptMany v_keptFirst v_restMany v_restFirst f_text) (va_A (w_X8_figure cI cZ cG o o_text o_kind o_size o_readJar o_page o_trial o_book o_kept o_isKept o_tastedFrom o_tastedTo o_order o_spots o_gains o_value v_thrown v_textSize v_place v_jars v_readPlaces v_readJars v_acts v_tasted v_seed v_some v_rowMany v_rowWay v_stuffWhich v_stuffNear v_keptMany v_keptFirst v_restMany v_restFirst f_text) sz)) (va_A (w_X8_figure cI cZ cG o o_text o_kind o_size o_readJar o_page o_trial o_book o_kept o_isKept o_tastedFrom o_tastedTo o_order o_spots o_gains o_value v_thrown v_textSize v_place v_jars v_readPlaces v_readJars v_acts v_tasted v_seed v_some v_rowMany v_rowWay v_stuffWhich v_stuffNear v_keptMany v_keptFirst v_restMany v_restFirst f_text) sz)) 0 0 (va_A (w_X8_figure cI cZ cG o o_text o_kind o_size o_readJar o_page o_trial o_book o_kept o_isKept o_tastedFrom o_tastedTo o_order o_spots o_gains o_value v_thrown v_textSize v_place v_jars v_readPlaces v_readJars v_acts v_tasted v_seed v_some v_rowMany v_rowWay v_stuffWhich v_stuffNear v_keptMany v_keptFirst v_restMany v_restFirst f_text) sz) := by
  refine Met.ofW (cc := cX8_figure) (maxL := 3) (ret := (some .int)) (by decide) rfl ?_
  intro p e s m args below meth c s₁ B hml hv
  obtain ⟨rfl, hv⟩ := hv
  obtain ⟨hsz, hP, hK, hN, hD0⟩ := hv
  have hx := B.exec
  have hb := B.bytes
  have hr := B.returns
  have hts := atoms_spec (ws := wsX8_figure) B.pre
  have hown : s.vm.findClass RX8 = some m.cls := findClass_of_methodNamed B.named
  have hlocks := B.notSynchronized
  have hiX8 : ∀ w ∈ u_ws RX8 TX8 33, w ∈ wsX8_figure := fun w h => List.mem_cons_of_mem _ (List.mem_append_right _ h)
  subst hsz
  have hD := hD0.self (sz := s.heap.size)
  generalize hAe : va_A (w_X8_figure cI cZ cG o o_text o_kind o_size o_readJar o_page o_trial o_book o_kept o_isKept o_tastedFrom o_tastedTo o_order o_spots o_gains o_value v_thrown v_textSize v_place v_jars v_readPlaces v_readJars v_acts v_tasted v_seed v_some v_rowMany v_rowWay v_stuffWhich v_stuffNear v_keptMany v_keptFirst v_restMany v_restFirst f_text) s.heap.size = A at hD ⊢
  have hA : ∀ q : Nat, s.heap.size ≤ q → A q := fun q h => by rw [← hAe]; exact Or.inr h
  clear hD0
  have hS : va_S A s.heap s.heap [] := va_S.rf
  have hP : va_P (dC, dI) vwCl (w_X8_figure cI cZ cG o o_text o_kind o_size o_readJar o_page o_trial o_book o_kept o_isKept o_tastedFrom o_tastedTo o_order o_spots o_gains o_value v_thrown v_textSize v_place v_jars v_readPlaces v_readJars v_acts v_tasted v_seed v_some v_rowMany v_rowWay v_stuffWhich v_stuffNear v_keptMany v_keptFirst v_restMany v_restFirst f_text) s.heap := hP
  obtain ⟨Q, hQ⟩ : ∃ Q : State → Prop, Q = MQ below (va_Qi (fun r _ => r = r0) (gE (dC, dI) vwCl (gT cI cZ cG) (w_X8_figure cI cZ cG o o_text o_kind o_size o_readJar o_page o_trial o_book o_kept o_isKept o_tastedFrom o_tastedTo o_order o_spots o_gains o_value v_thrown v_textSize n_place v_jars v_readPlaces v_readJars v_acts v_tasted v_seed v_some v_rowMany v_rowWay v_stuffWhich v_stuffNear v_keptMany v_keptFirst v_restMany v_restFirst f_text) A) A) (([Value.ref o, Value.int a1, Value.int a2] : List Value).toArray) s 0 0 A := ⟨_, rfl⟩
  have hl := lv_entry ([.ref o, .int a1, .int a2]) (n := 3) (Nat.le_of_ble_eq_true rfl)
  rw [← hQ, lg_entry_eq]
  generalize (lg_sl ([.ref o, .int a1, .int a2]) ++ List.replicate (3 - (lg_sl ([.ref o, .int a1, .int a2])).length) Slot.unset).toArray = ls at hl ⊢
  have hl : lv_has ls 3 [(0, .ref o), (1, .int a1), (2, .int a2)] := hl
  generalize hH : s.heap = H at hP hS ⊢
  have hS : va_S A s.heap H [] := by rw [hH]; exact hS
  generalize hlc : ([] : List Loc) = locs at hS ⊢
  show W p l e rm_X8_figure s m (([Value.ref o, Value.int a1, Value.int a2] : List Value).toArray) below meth c H locs 0 0 Q (F0 m 0 ls [])
  unfold x8_figure at hf
  refine lv_aload_n hx hb dX8_figure_0 rfl (lv_at hl 0 rfl) ?_
  refine va_get (D := (dC, dI)) (ci := 8) (v := .int v_place) (C := RX8) (T := TX8) (N := 33) hx hb hts hiX8 hown hK hP 0 rfl rfl 3 (by decide) (hts (.fieldLink RX8 72 "GreenJarsModel" "place" "I") (by decide +kernel)) (fun _ h9 => h9) rfl dX8_figure_1 ?_
  refine lv_aload_n hx hb dX8_figure_4 rfl (lv_at hl 0 rfl) ?_
  refine va_get (D := (dC, dI)) (ci := 8) (v := .int v_textSize) (C := RX8) (T := TX8) (N := 33) hx hb hts hiX8 hown hK hP 0 rfl rfl 2 (by decide) (hts (.fieldLink RX8 69 "GreenJarsModel" "textSize" "I") (by decide +kernel)) (fun _ h9 => h9) rfl dX8_figure_5 ?_
  refine lv_icmp_eq (tgt := 34) hx hb dX8_figure_8 (by decide) (fun c1 => ?_) (fun c1 => ?_)
  · have hf := g_pos c1 hf
    refine lv_bipush (v := (-9 : Int32)) hx hb dX8_figure_34 (by decide +kernel) ?_
    rw [hQ]
    cases hf
    exact W.iret hx hb hr (fun t ht hW => ⟨⟨_, (), rfl, rfl, by rw [ht]; exact hP, va_K.moved hW.alike hK, hD⟩, hS.F ht⟩) hS.2.2 dX8_figure_36
  · have hf := g_neg c1 hf
    refine lv_aload_n hx hb dX8_figure_11 rfl (lv_at hl 0 rfl) ?_
    refine va_get (D := (dC, dI)) (ci := 8) (v := .ref o_text) (C := RX8) (T := TX8) (N := 33) hx hb hts hiX8 hown hK hP 0 rfl rfl 1 (by decide) (hts (.fieldLink RX8 7 "GreenJarsModel" "text" "[I") (by decide +kernel)) (fun _ h9 => h9) rfl dX8_figure_12 ?_
    refine lv_aload_n hx hb dX8_figure_15 rfl (lv_at hl 0 rfl) ?_
    refine va_get (D := (dC, dI)) (ci := 8) (v := .int v_place) (C := RX8) (T := TX8) (N := 33) hx hb hts hiX8 hown hK hP 0 rfl rfl 3 (by decide) (hts (.fieldLink RX8 72 "GreenJarsModel" "place" "I") (by decide +kernel)) (fun _ h9 => h9) rfl dX8_figure_16 ?_
    obtain ⟨h2, hf⟩ := g_chk hf
    refine va_iald hx hb hK hP 1 0 rfl rfl (gIn_vp h2) dX8_figure_19 ?_
    refine lv_bipush (v := (48 : Int32)) hx hb dX8_figure_20 (by decide +kernel) ?_
    refine lv_isub hx hb dX8_figure_22 ?_
    refine lv_i2l hx hb dX8_figure_23 rfl ?_
    refine lv_iload_n hx hb dX8_figure_24 rfl (lv_at hl 1 rfl) ?_
    refine lv_i2l hx hb dX8_figure_25 rfl ?_
    refine lv_iload_n hx hb dX8_figure_26 rfl (lv_at hl 2 rfl) ?_
    refine lv_i2l hx hb dX8_figure_27 rfl ?_
    obtain ⟨r3, hc4, hf⟩ := g_b1 hf
    refine g_rS (As := [.long (((f_text v_place.toNatClampNeg) - (48 : Int32)).toInt64), .long a1.toInt64, .long a2.toInt64]) (rest := []) ⟨hx, hb, hml, hown, hts⟩ (c_X8_in l dC dI cI cZ cG    (((f_text v_place.toNatClampNeg) - (48 : Int32)).toInt64) a1.toInt64 a2.toInt64 hc4) (va_cwS 3 hts gX8_figure_X8_in rfl rfl rfl (by decide +kernel) ⟨Nat.le_of_ble_eq_true rfl, Nat.le_of_ble_eq_true rfl⟩) hK hN (hP.sub [] rfl) rfl hl.1 rfl (Nat.le_of_ble_eq_true rfl) dX8_figure_28 ⟨Nat.zero_le _, Nat.zero_le _⟩ ?_
    refine lv_if_ne (tgt := 37) hx hb dX8_figure_31 (by decide) (fun c5 => ?_) (fun c5 => ?_)
    · have hf := g_neg c5 hf
      refine lv_aload_n hx hb dX8_figure_37 rfl (lv_at hl 0 rfl) ?_
      refine lv_dup hx hb dX8_figure_38 rfl ?_
      refine va_get (D := (dC, dI)) (ci := 8) (v := .int v_place) (C := RX8) (T := TX8) (N := 33) hx hb hts hiX8 hown hK hP 0 rfl rfl 3 (by decide) (hts (.fieldLink RX8 72 "GreenJarsModel" "place" "I") (by decide +kernel)) (fun _ h9 => h9) rfl dX8_figure_39 ?_
      refine lv_iconst (v := (1 : Int32)) hx hb dX8_figure_42 (by decide) ?_
      refine lv_iadd hx hb dX8_figure_43 ?_
      refine va_put (D := (dC, dI)) (ci := 8) (v := .int (v_place + (1 : Int32))) (ty := .int) (C := RX8) (T := TX8) (N := 33) hx hb hts hiX8 tyX8 tyX8_ok nmX8 hown hK hP hD hS 0 rfl rfl 3 (by decide) (hts (.fieldLink RX8 72 "GreenJarsModel" "place" "I") (by decide +kernel)) (fun _ h9 => h9) rfl (by decide +kernel) rfl rfl (Nat.le_of_ble_eq_true rfl) dX8_figure_44 (fun H locs hP hD hS => ?_)
      have hP : va_P (dC, dI) vwCl (w_X8_figure cI cZ cG o o_text o_kind o_size o_readJar o_page o_trial o_book o_kept o_isKept o_tastedFrom o_tastedTo o_order o_spots o_gains o_value v_thrown v_textSize (v_place + (1 : Int32)) v_jars v_readPlaces v_readJars v_acts v_tasted v_seed v_some v_rowMany v_rowWay v_stuffWhich v_stuffNear v_keptMany v_keptFirst v_restMany v_restFirst f_text) H := hP
      have hD : va_D A (w_X8_figure cI cZ cG o o_text o_kind o_size o_readJar o_page o_trial o_book o_kept o_isKept o_tastedFrom o_tastedTo o_order o_spots o_gains o_value v_thrown v_textSize (v_place + (1 : Int32)) v_jars v_readPlaces v_readJars v_acts v_tasted v_seed v_some v_rowMany v_rowWay v_stuffWhich v_stuffNear v_keptMany v_keptFirst v_restMany v_restFirst f_text) := hD
      refine lv_aload_n hx hb dX8_figure_47 rfl (lv_at hl 0 rfl) ?_
      refine va_get (D := (dC, dI)) (ci := 8) (v := .ref o_text) (C := RX8) (T := TX8) (N := 33) hx hb hts hiX8 hown hK hP 0 rfl rfl 1 (by decide) (hts (.fieldLink RX8 7 "GreenJarsModel" "text" "[I") (by decide +kernel)) (fun _ h9 => h9) rfl dX8_figure_48 ?_
      refine lv_aload_n hx hb dX8_figure_51 rfl (lv_at hl 0 rfl) ?_
      refine va_get (D := (dC, dI)) (ci := 8) (v := .int (v_place + (1 : Int32))) (C := RX8) (T := TX8) (N := 33) hx hb hts hiX8 hown hK hP 0 rfl rfl 3 (by decide) (hts (.fieldLink RX8 72 "GreenJarsModel" "place" "I") (by decide +kernel)) (fun _ h9 => h9) rfl dX8_figure_52 ?_
      refine lv_iconst (v := (1 : Int32)) hx hb dX8_figure_55 (by decide) ?_
      refine lv_isub hx hb dX8_figure_56 ?_
      obtain ⟨h6, hf⟩ := g_chk hf
      refine va_iald hx hb hK hP 1 0 rfl rfl (gIn_vp h6) dX8_figure_57 ?_
      refine lv_bipush (v := (48 : Int32)) hx hb dX8_figure_58 (by decide +kernel) ?_
      refine lv_isub hx hb dX8_figure_60 ?_
      rw [hQ]
      cases hf
      exact W.iret hx hb hr (fun t ht hW => ⟨⟨_, (), rfl, rfl, by rw [ht]; exact hP, va_K.moved hW.alike hK, hD⟩, hS.F ht⟩) hS.2.2 dX8_figure_61
    · have hf := g_pos c5 hf
      refine lv_bipush (v := (-9 : Int32)) hx hb dX8_figure_34 (by decide +kernel) ?_
      rw [hQ]
      cases hf
      exact W.iret hx hb hr (fun t ht hW => ⟨⟨_, (), rfl, rfl, by rw [ht]; exact hP, va_K.moved hW.alike hK, hD⟩, hS.F ht⟩) hS.2.2 dX8_figure_36
abbrev rm_X8_readOneJar : Room := { frames := 2, cells := 0, slots := 0, locals := 47 }
abbrev w_X8_readOneJar (cI cZ cG : ClassId) (o : Nat) (o_text : Nat) (o_kind : Nat) (o_size : Nat) (o_readJar : Nat) (o_page : Nat) (o_trial : Nat) (o_book : Nat) (o_kept : Nat) (o_isKept : Nat) (o_tastedFrom : Nat) (o_tastedTo : Nat) (o_order : Nat) (o_spots : Nat) (o_gains : Nat) (o_value : Nat) (v_thrown : Int32) (v_textSize : Int32) (v_place : Int32) (v_jars : Int32) (v_readPlaces : Int32) (v_readJars : Int32) (v_acts : Int32) (v_tasted : Int32) (v_seed : Int64) (v_some : Int32) (v_rowMany : Int32) (v_rowWay : Int32) (v_stuffWhich : Int32) (v_stuffNear : Int32) (v_keptMany : Int32) (v_keptFirst : Int32) (v_restMany : Int32) (v_restFirst : Int32) (f_text : Nat → Int32) (f_readJar : Nat → Int32) : va_W := [(o, .inr (8, [.int v_thrown, .ref o_text, .int v_textSize, .int v_place, .int v_jars, .ref o_kind, .ref o_size, .int v_readPlaces, .int v_readJars, .ref o_readJar, .ref o_page, .ref o_trial, .ref o_book, .int v_acts, .ref o_kept, .ref o_isKept, .int v_tasted, .ref o_tastedFrom, .ref o_tastedTo, .long v_seed, .int v_some, .ref o_order, .ref o_spots, .int v_rowMany, .int v_rowWay, .int v_stuffWhich, .int v_stuffNear, .int v_keptMany, .int v_keptFirst, .int v_restMany, .int v_restFirst, .ref o_gains, .ref o_value])), (o_text, .inl (cI, 48, .inl f_text)), (o_readJar, .inl (cI, 30, .inl f_readJar))]
set_option maxHeartbeats 4000000 in
set_option maxRecDepth 100000 in
theorem c_X8_readOneJar (l : Launch) (dC : Nat → ClassId) (dI : Nat → Nat → Nat) (cI cZ cG : ClassId) (o : Nat) (o_text : Nat) (o_kind : Nat) (o_size : Nat) (o_readJar : Nat) (o_page : Nat) (o_trial : Nat) (o_book : Nat) (o_kept : Nat) (o_isKept : Nat) (o_tastedFrom : Nat) (o_tastedTo : Nat) (o_order : Nat) (o_spots : Nat) (o_gains : Nat) (o_value : Nat) (sz : Nat) (v_thrown : Int32) (v_textSize : Int32) (v_place : Int32) (v_jars : Int32) (v_readPlaces : Int32) (v_readJars : Int32) (v_acts : Int32) (v_tasted : Int32) (v_seed : Int64) (v_some : Int32) (v_rowMany : Int32) (v_rowWay : Int32) (v_stuffWhich : Int32) (v_stuffNear : Int32) (v_keptMany : Int32) (v_keptFirst : Int32) (v_restMany : Int32) (v_restFirst : Int32) (f_text : Nat → Int32) (f_readJar : Nat → Int32) {r0 : Int32} {n_place : Int32} {n_readPlaces : Int32} {n_readJars : Int32} {n_readJar : Nat → Int32} (hf : x8_readOneJar v_textSize v_place v_readPlaces v_readJars f_text f_readJar = some (r0, n_place, n_readPlaces, n_readJars, n_readJar)) : Met l yX8_readOneJar wsX8_readOneJar rm_X8_readOneJar (va_Pc [.ref o] (gW (dC, dI) vwCl (gT cI cZ cG) (w_X8_readOneJar cI cZ cG o o_text o_kind o_size o_readJar o_page o_trial o_book o_kept o_isKept o_tastedFrom o_tastedTo o_order o_spots o_gains o_value v_thrown v_textSize v_place v_jars v_readPlaces v_readJars v_acts v_tasted v_seed v_some v_rowMany v_rowWay v_stuffWhich v_stuffNear v_keptMany v_keptFirst v_restMany v_restFirst f_text f_readJar) sz)) (va_Qi (fun r _ => r = r0) (gE (dC, dI) vwCl (gT cI cZ cG) (w_X8_readOneJar cI cZ cG o o_text o_kind o_size o_readJar o_page o_trial o_book o_kept o_isKept o_tastedFrom o_tastedTo o_order o_spots o_gains o_value v_thrown v_textSize n_place v_jars n_readPlaces n_readJars v_acts v_tasted v_seed v_some v_rowMany v_rowWay v_stuffWhich v_stuffNear v_keptMany v_keptFirst v_restMany v_restFirst f_text n_readJar) (va_A (w_X8_readOneJar cI cZ cG o o_text o_kind o_size o_readJar o_page o_trial o_book o_kept o_isKept o_tastedFrom o_tastedTo o_order o_spots o_gains o_value v_thrown v_textSize v_place v_jars v_readPlaces v_readJars v_acts v_tasted v_seed v_some v_rowMany v_rowWay v_stuffWhich v_stuffNear v_keptMany v_keptFirst v_restMany v_restFirst f_text f_readJar) sz)) (va_A (w_X8_readOneJar cI cZ cG o o_text o_kind o_size o_readJar o_page o_trial o_book o_kept o_isKept o_tastedFrom o_tastedTo o_order o_spots o_gains o_value v_thrown v_textSize v_place v_jars v_readPlaces v_readJars v_acts v_tasted v_seed v_some v_rowMany v_rowWay v_stuffWhich v_stuffNear v_keptMany v_keptFirst v_restMany v_restFirst f_text f_readJar) sz)) 0 0 (va_A (w_X8_readOneJar cI cZ cG o o_text o_kind o_size o_readJar o_page o_trial o_book o_kept o_isKept o_tastedFrom o_tastedTo o_order o_spots o_gains o_value v_thrown v_textSize v_place v_jars v_readPlaces v_readJars v_acts v_tasted v_seed v_some v_rowMany v_rowWay v_stuffWhich v_stuffNear v_keptMany v_keptFirst v_restMany v_restFirst f_text f_readJar) sz) := by
  refine Met.ofW (cc := cX8_readOneJar) (maxL := 6) (ret := (some .boolean)) (by decide) rfl ?_
  intro p e s m args below meth c s₁ B hml hv
  obtain ⟨rfl, hv⟩ := hv
  obtain ⟨hsz, hP, hK, hN, hD0⟩ := hv
  have hx := B.exec
  have hb := B.bytes
  have hr := B.returns
  have hts := atoms_spec (ws := wsX8_readOneJar) B.pre
  have hown : s.vm.findClass RX8 = some m.cls := findClass_of_methodNamed B.named
  have hlocks := B.notSynchronized
  have hiX8 : ∀ w ∈ u_ws RX8 TX8 33, w ∈ wsX8_readOneJar := fun w h => List.mem_cons_of_mem _ (List.mem_append_right _ h)
  subst hsz
  have hD := hD0.self (sz := s.heap.size)
  generalize hAe : va_A (w_X8_readOneJar cI cZ cG o o_text o_kind o_size o_readJar o_page o_trial o_book o_kept o_isKept o_tastedFrom o_tastedTo o_order o_spots o_gains o_value v_thrown v_textSize v_place v_jars v_readPlaces v_readJars v_acts v_tasted v_seed v_some v_rowMany v_rowWay v_stuffWhich v_stuffNear v_keptMany v_keptFirst v_restMany v_restFirst f_text f_readJar) s.heap.size = A at hD ⊢
  have hA : ∀ q : Nat, s.heap.size ≤ q → A q := fun q h => by rw [← hAe]; exact Or.inr h
  clear hD0
  have hS : va_S A s.heap s.heap [] := va_S.rf
  have hP : va_P (dC, dI) vwCl (w_X8_readOneJar cI cZ cG o o_text o_kind o_size o_readJar o_page o_trial o_book o_kept o_isKept o_tastedFrom o_tastedTo o_order o_spots o_gains o_value v_thrown v_textSize v_place v_jars v_readPlaces v_readJars v_acts v_tasted v_seed v_some v_rowMany v_rowWay v_stuffWhich v_stuffNear v_keptMany v_keptFirst v_restMany v_restFirst f_text f_readJar) s.heap := hP
  obtain ⟨Q, hQ⟩ : ∃ Q : State → Prop, Q = MQ below (va_Qi (fun r _ => r = r0) (gE (dC, dI) vwCl (gT cI cZ cG) (w_X8_readOneJar cI cZ cG o o_text o_kind o_size o_readJar o_page o_trial o_book o_kept o_isKept o_tastedFrom o_tastedTo o_order o_spots o_gains o_value v_thrown v_textSize n_place v_jars n_readPlaces n_readJars v_acts v_tasted v_seed v_some v_rowMany v_rowWay v_stuffWhich v_stuffNear v_keptMany v_keptFirst v_restMany v_restFirst f_text n_readJar) A) A) (([Value.ref o] : List Value).toArray) s 0 0 A := ⟨_, rfl⟩
  have hl := lv_entry ([.ref o]) (n := 6) (Nat.le_of_ble_eq_true rfl)
  rw [← hQ, lg_entry_eq]
  generalize (lg_sl ([.ref o]) ++ List.replicate (6 - (lg_sl ([.ref o])).length) Slot.unset).toArray = ls at hl ⊢
  have hl : lv_has ls 6 [(0, .ref o)] := hl
  generalize hH : s.heap = H at hP hS ⊢
  have hS : va_S A s.heap H [] := by rw [hH]; exact hS
  generalize hlc : ([] : List Loc) = locs at hS ⊢
  show W p l e rm_X8_readOneJar s m (([Value.ref o] : List Value).toArray) below meth c H locs 0 0 Q (F0 m 0 ls [])
  have J163 : ∀ (x1 : Int32) (x2 : Int32) (x3 : Int32) (x4 : Int32) (t0 : Int32) (y_place : Int32) (y_readPlaces : Int32) (y_readJars : Int32) (y_readJar : Nat → Int32) (H : Heap) (locs : List Loc) (ls : Array Slot), x8_readOneJar_b163 v_textSize f_text x1 x2 x3 x4 t0 y_place y_readPlaces y_readJars y_readJar = some (r0, n_place, n_readPlaces, n_readJars, n_readJar) → lv_has ls 6 [(0, .ref o), (1, .int x1), (2, .int x2), (3, .int x3), (4, .int x4)] → va_P (dC, dI) vwCl (w_X8_readOneJar cI cZ cG o o_text o_kind o_size o_readJar o_page o_trial o_book o_kept o_isKept o_tastedFrom o_tastedTo o_order o_spots o_gains o_value v_thrown v_textSize y_place v_jars y_readPlaces y_readJars v_acts v_tasted v_seed v_some v_rowMany v_rowWay v_stuffWhich v_stuffNear v_keptMany v_keptFirst v_restMany v_restFirst f_text y_readJar) H → va_D A (w_X8_readOneJar cI cZ cG o o_text o_kind o_size o_readJar o_page o_trial o_book o_kept o_isKept o_tastedFrom o_tastedTo o_order o_spots o_gains o_value v_thrown v_textSize y_place v_jars y_readPlaces y_readJars v_acts v_tasted v_seed v_some v_rowMany v_rowWay v_stuffWhich v_stuffNear v_keptMany v_keptFirst v_restMany v_restFirst f_text y_readJar) → va_S A s.heap H locs → W p l e rm_X8_readOneJar s m (([Value.ref o] : List Value).toArray) below meth c H locs 0 0 Q (F0 m 163 ls [.int t0]) := by
    intro x1 x2 x3 x4 t0 y_place y_readPlaces y_readJars y_readJar H locs ls hf hl hP hD hS
    unfold x8_readOneJar_b163 at hf
    refine lv_istore (lv' := [(5, .int t0), (0, .ref o), (1, .int x1), (2, .int x2), (3, .int x3), (4, .int x4)]) hx hb dX8_readOneJar_163 hl (by decide) rfl (fun ls hl => ?_)
    refine lv_iload hx hb dX8_readOneJar_165 (lv_at hl 0 rfl) ?_
    refine lv_bipush (v := (-9 : Int32)) hx hb dX8_readOneJar_167 (by decide +kernel) ?_
    refine lv_icmp_ne (tgt := 174) hx hb dX8_readOneJar_169 (by decide) (fun c1 => ?_) (fun c1 => ?_)
    · have hf := g_neg c1 hf
      refine lv_aload_n hx hb dX8_readOneJar_174 rfl (lv_at hl 1 rfl) ?_
      refine lv_dup hx hb dX8_readOneJar_175 rfl ?_
      refine va_get (D := (dC, dI)) (ci := 8) (v := .int y_readPlaces) (C := RX8) (T := TX8) (N := 33) hx hb hts hiX8 hown hK hP 0 rfl rfl 7 (by decide) (hts (.fieldLink RX8 80 "GreenJarsModel" "readPlaces" "I") (by decide +kernel)) (fun _ h9 => h9) rfl dX8_readOneJar_176 ?_
      refine lv_iconst (v := (1 : Int32)) hx hb dX8_readOneJar_179 (by decide) ?_
      refine lv_iload_n hx hb dX8_readOneJar_180 rfl (lv_at hl 2 rfl) ?_
      refine lv_ishl hx hb dX8_readOneJar_181 ?_
      refine lv_ior hx hb dX8_readOneJar_182 ?_
      refine va_put (D := (dC, dI)) (ci := 8) (v := .int (y_readPlaces ||| ((1 : Int32) <<< (x1 &&& 31)))) (ty := .int) (C := RX8) (T := TX8) (N := 33) hx hb hts hiX8 tyX8 tyX8_ok nmX8 hown hK hP hD hS 0 rfl rfl 7 (by decide) (hts (.fieldLink RX8 80 "GreenJarsModel" "readPlaces" "I") (by decide +kernel)) (fun _ h9 => h9) rfl (by decide +kernel) rfl rfl (Nat.le_of_ble_eq_true rfl) dX8_readOneJar_183 (fun H locs hP hD hS => ?_)
      have hP : va_P (dC, dI) vwCl (w_X8_readOneJar cI cZ cG o o_text o_kind o_size o_readJar o_page o_trial o_book o_kept o_isKept o_tastedFrom o_tastedTo o_order o_spots o_gains o_value v_thrown v_textSize y_place v_jars (y_readPlaces ||| ((1 : Int32) <<< (x1 &&& 31))) y_readJars v_acts v_tasted v_seed v_some v_rowMany v_rowWay v_stuffWhich v_stuffNear v_keptMany v_keptFirst v_restMany v_restFirst f_text y_readJar) H := hP
      have hD : va_D A (w_X8_readOneJar cI cZ cG o o_text o_kind o_size o_readJar o_page o_trial o_book o_kept o_isKept o_tastedFrom o_tastedTo o_order o_spots o_gains o_value v_thrown v_textSize y_place v_jars (y_readPlaces ||| ((1 : Int32) <<< (x1 &&& 31))) y_readJars v_acts v_tasted v_seed v_some v_rowMany v_rowWay v_stuffWhich v_stuffNear v_keptMany v_keptFirst v_restMany v_restFirst f_text y_readJar) := hD
      refine lv_aload_n hx hb dX8_readOneJar_186 rfl (lv_at hl 1 rfl) ?_
      refine va_get (D := (dC, dI)) (ci := 8) (v := .ref o_readJar) (C := RX8) (T := TX8) (N := 33) hx hb hts hiX8 hown hK hP 0 rfl rfl 9 (by decide) (hts (.fieldLink RX8 19 "GreenJarsModel" "readJar" "[I") (by decide +kernel)) (fun _ h9 => h9) rfl dX8_readOneJar_187 ?_
      refine lv_iconst (v := (5 : Int32)) hx hb dX8_readOneJar_190 (by decide) ?_
      refine lv_aload_n hx hb dX8_readOneJar_191 rfl (lv_at hl 1 rfl) ?_
      refine va_get (D := (dC, dI)) (ci := 8) (v := .int y_readJars) (C := RX8) (T := TX8) (N := 33) hx hb hts hiX8 hown hK hP 0 rfl rfl 8 (by decide) (hts (.fieldLink RX8 75 "GreenJarsModel" "readJars" "I") (by decide +kernel)) (fun _ h9 => h9) rfl dX8_readOneJar_192 ?_
      refine lv_imul hx hb dX8_readOneJar_195 ?_
      refine lv_iload_n hx hb dX8_readOneJar_196 rfl (lv_at hl 2 rfl) ?_
      obtain ⟨h2, hf⟩ := g_chk hf
      refine va_iast hx hb hK hP hD hS 2 0 rfl rfl (gIn_vp h2) dX8_readOneJar_197 (fun H locs hP hD hS => ?_)
      have hP : va_P (dC, dI) vwCl (w_X8_readOneJar cI cZ cG o o_text o_kind o_size o_readJar o_page o_trial o_book o_kept o_isKept o_tastedFrom o_tastedTo o_order o_spots o_gains o_value v_thrown v_textSize y_place v_jars (y_readPlaces ||| ((1 : Int32) <<< (x1 &&& 31))) y_readJars v_acts v_tasted v_seed v_some v_rowMany v_rowWay v_stuffWhich v_stuffNear v_keptMany v_keptFirst v_restMany v_restFirst f_text (upd y_readJar ((5 : Int32) * y_readJars).toNatClampNeg x1)) H := hP
      have hD : va_D A (w_X8_readOneJar cI cZ cG o o_text o_kind o_size o_readJar o_page o_trial o_book o_kept o_isKept o_tastedFrom o_tastedTo o_order o_spots o_gains o_value v_thrown v_textSize y_place v_jars (y_readPlaces ||| ((1 : Int32) <<< (x1 &&& 31))) y_readJars v_acts v_tasted v_seed v_some v_rowMany v_rowWay v_stuffWhich v_stuffNear v_keptMany v_keptFirst v_restMany v_restFirst f_text (upd y_readJar ((5 : Int32) * y_readJars).toNatClampNeg x1)) := hD
      refine lv_aload_n hx hb dX8_readOneJar_198 rfl (lv_at hl 1 rfl) ?_
      refine va_get (D := (dC, dI)) (ci := 8) (v := .ref o_readJar) (C := RX8) (T := TX8) (N := 33) hx hb hts hiX8 hown hK hP 0 rfl rfl 9 (by decide) (hts (.fieldLink RX8 19 "GreenJarsModel" "readJar" "[I") (by decide +kernel)) (fun _ h9 => h9) rfl dX8_readOneJar_199 ?_
      refine lv_iconst (v := (5 : Int32)) hx hb dX8_readOneJar_202 (by decide) ?_
      refine lv_aload_n hx hb dX8_readOneJar_203 rfl (lv_at hl 1 rfl) ?_
      refine va_get (D := (dC, dI)) (ci := 8) (v := .int y_readJars) (C := RX8) (T := TX8) (N := 33) hx hb hts hiX8 hown hK hP 0 rfl rfl 8 (by decide) (hts (.fieldLink RX8 75 "GreenJarsModel" "readJars" "I") (by decide +kernel)) (fun _ h9 => h9) rfl dX8_readOneJar_204 ?_
      refine lv_imul hx hb dX8_readOneJar_207 ?_
      refine lv_iconst (v := (1 : Int32)) hx hb dX8_readOneJar_208 (by decide) ?_
      refine lv_iadd hx hb dX8_readOneJar_209 ?_
      refine lv_iload_n hx hb dX8_readOneJar_210 rfl (lv_at hl 3 rfl) ?_
      obtain ⟨h3, hf⟩ := g_chk hf
      refine va_iast hx hb hK hP hD hS 2 0 rfl rfl (gIn_vp h3) dX8_readOneJar_211 (fun H locs hP hD hS => ?_)
      have hP : va_P (dC, dI) vwCl (w_X8_readOneJar cI cZ cG o o_text o_kind o_size o_readJar o_page o_trial o_book o_kept o_isKept o_tastedFrom o_tastedTo o_order o_spots o_gains o_value v_thrown v_textSize y_place v_jars (y_readPlaces ||| ((1 : Int32) <<< (x1 &&& 31))) y_readJars v_acts v_tasted v_seed v_some v_rowMany v_rowWay v_stuffWhich v_stuffNear v_keptMany v_keptFirst v_restMany v_restFirst f_text (upd (upd y_readJar ((5 : Int32) * y_readJars).toNatClampNeg x1) (((5 : Int32) * y_readJars) + (1 : Int32)).toNatClampNeg x2)) H := hP
      have hD : va_D A (w_X8_readOneJar cI cZ cG o o_text o_kind o_size o_readJar o_page o_trial o_book o_kept o_isKept o_tastedFrom o_tastedTo o_order o_spots o_gains o_value v_thrown v_textSize y_place v_jars (y_readPlaces ||| ((1 : Int32) <<< (x1 &&& 31))) y_readJars v_acts v_tasted v_seed v_some v_rowMany v_rowWay v_stuffWhich v_stuffNear v_keptMany v_keptFirst v_restMany v_restFirst f_text (upd (upd y_readJar ((5 : Int32) * y_readJars).toNatClampNeg x1) (((5 : Int32) * y_readJars) + (1 : Int32)).toNatClampNeg x2)) := hD
      refine lv_aload_n hx hb dX8_readOneJar_212 rfl (lv_at hl 1 rfl) ?_
      refine va_get (D := (dC, dI)) (ci := 8) (v := .ref o_readJar) (C := RX8) (T := TX8) (N := 33) hx hb hts hiX8 hown hK hP 0 rfl rfl 9 (by decide) (hts (.fieldLink RX8 19 "GreenJarsModel" "readJar" "[I") (by decide +kernel)) (fun _ h9 => h9) rfl dX8_readOneJar_213 ?_
      refine lv_iconst (v := (5 : Int32)) hx hb dX8_readOneJar_216 (by decide) ?_
      refine lv_aload_n hx hb dX8_readOneJar_217 rfl (lv_at hl 1 rfl) ?_
      refine va_get (D := (dC, dI)) (ci := 8) (v := .int y_readJars) (C := RX8) (T := TX8) (N := 33) hx hb hts hiX8 hown hK hP 0 rfl rfl 8 (by decide) (hts (.fieldLink RX8 75 "GreenJarsModel" "readJars" "I") (by decide +kernel)) (fun _ h9 => h9) rfl dX8_readOneJar_218 ?_
      refine lv_imul hx hb dX8_readOneJar_221 ?_
      refine lv_iconst (v := (2 : Int32)) hx hb dX8_readOneJar_222 (by decide) ?_
      refine lv_iadd hx hb dX8_readOneJar_223 ?_
      refine lv_iload_n hx hb dX8_readOneJar_224 rfl (lv_at hl 4 rfl) ?_
      obtain ⟨h4, hf⟩ := g_chk hf
      refine va_iast hx hb hK hP hD hS 2 0 rfl rfl (gIn_vp h4) dX8_readOneJar_225 (fun H locs hP hD hS => ?_)
      have hP : va_P (dC, dI) vwCl (w_X8_readOneJar cI cZ cG o o_text o_kind o_size o_readJar o_page o_trial o_book o_kept o_isKept o_tastedFrom o_tastedTo o_order o_spots o_gains o_value v_thrown v_textSize y_place v_jars (y_readPlaces ||| ((1 : Int32) <<< (x1 &&& 31))) y_readJars v_acts v_tasted v_seed v_some v_rowMany v_rowWay v_stuffWhich v_stuffNear v_keptMany v_keptFirst v_restMany v_restFirst f_text (upd (upd (upd y_readJar ((5 : Int32) * y_readJars).toNatClampNeg x1) (((5 : Int32) * y_readJars) + (1 : Int32)).toNatClampNeg x2) (((5 : Int32) * y_readJars) + (2 : Int32)).toNatClampNeg x3)) H := hP
      have hD : va_D A (w_X8_readOneJar cI cZ cG o o_text o_kind o_size o_readJar o_page o_trial o_book o_kept o_isKept o_tastedFrom o_tastedTo o_order o_spots o_gains o_value v_thrown v_textSize y_place v_jars (y_readPlaces ||| ((1 : Int32) <<< (x1 &&& 31))) y_readJars v_acts v_tasted v_seed v_some v_rowMany v_rowWay v_stuffWhich v_stuffNear v_keptMany v_keptFirst v_restMany v_restFirst f_text (upd (upd (upd y_readJar ((5 : Int32) * y_readJars).toNatClampNeg x1) (((5 : Int32) * y_readJars) + (1 : Int32)).toNatClampNeg x2) (((5 : Int32) * y_readJars) + (2 : Int32)).toNatClampNeg x3)) := hD
      refine lv_aload_n hx hb dX8_readOneJar_226 rfl (lv_at hl 1 rfl) ?_
      refine va_get (D := (dC, dI)) (ci := 8) (v := .ref o_readJar) (C := RX8) (T := TX8) (N := 33) hx hb hts hiX8 hown hK hP 0 rfl rfl 9 (by decide) (hts (.fieldLink RX8 19 "GreenJarsModel" "readJar" "[I") (by decide +kernel)) (fun _ h9 => h9) rfl dX8_readOneJar_227 ?_
      refine lv_iconst (v := (5 : Int32)) hx hb dX8_readOneJar_230 (by decide) ?_
      refine lv_aload_n hx hb dX8_readOneJar_231 rfl (lv_at hl 1 rfl) ?_
      refine va_get (D := (dC, dI)) (ci := 8) (v := .int y_readJars) (C := RX8) (T := TX8) (N := 33) hx hb hts hiX8 hown hK hP 0 rfl rfl 8 (by decide) (hts (.fieldLink RX8 75 "GreenJarsModel" "readJars" "I") (by decide +kernel)) (fun _ h9 => h9) rfl dX8_readOneJar_232 ?_
      refine lv_imul hx hb dX8_readOneJar_235 ?_
      refine lv_iconst (v := (3 : Int32)) hx hb dX8_readOneJar_236 (by decide) ?_
      refine lv_iadd hx hb dX8_readOneJar_237 ?_
      refine lv_iload hx hb dX8_readOneJar_238 (lv_at hl 5 rfl) ?_
      obtain ⟨h5, hf⟩ := g_chk hf
      refine va_iast hx hb hK hP hD hS 2 0 rfl rfl (gIn_vp h5) dX8_readOneJar_240 (fun H locs hP hD hS => ?_)
      have hP : va_P (dC, dI) vwCl (w_X8_readOneJar cI cZ cG o o_text o_kind o_size o_readJar o_page o_trial o_book o_kept o_isKept o_tastedFrom o_tastedTo o_order o_spots o_gains o_value v_thrown v_textSize y_place v_jars (y_readPlaces ||| ((1 : Int32) <<< (x1 &&& 31))) y_readJars v_acts v_tasted v_seed v_some v_rowMany v_rowWay v_stuffWhich v_stuffNear v_keptMany v_keptFirst v_restMany v_restFirst f_text (upd (upd (upd (upd y_readJar ((5 : Int32) * y_readJars).toNatClampNeg x1) (((5 : Int32) * y_readJars) + (1 : Int32)).toNatClampNeg x2) (((5 : Int32) * y_readJars) + (2 : Int32)).toNatClampNeg x3) (((5 : Int32) * y_readJars) + (3 : Int32)).toNatClampNeg x4)) H := hP
      have hD : va_D A (w_X8_readOneJar cI cZ cG o o_text o_kind o_size o_readJar o_page o_trial o_book o_kept o_isKept o_tastedFrom o_tastedTo o_order o_spots o_gains o_value v_thrown v_textSize y_place v_jars (y_readPlaces ||| ((1 : Int32) <<< (x1 &&& 31))) y_readJars v_acts v_tasted v_seed v_some v_rowMany v_rowWay v_stuffWhich v_stuffNear v_keptMany v_keptFirst v_restMany v_restFirst f_text (upd (upd (upd (upd y_readJar ((5 : Int32) * y_readJars).toNatClampNeg x1) (((5 : Int32) * y_readJars) + (1 : Int32)).toNatClampNeg x2) (((5 : Int32) * y_readJars) + (2 : Int32)).toNatClampNeg x3) (((5 : Int32) * y_readJars) + (3 : Int32)).toNatClampNeg x4)) := hD
      refine lv_aload_n hx hb dX8_readOneJar_241 rfl (lv_at hl 1 rfl) ?_
      refine va_get (D := (dC, dI)) (ci := 8) (v := .ref o_readJar) (C := RX8) (T := TX8) (N := 33) hx hb hts hiX8 hown hK hP 0 rfl rfl 9 (by decide) (hts (.fieldLink RX8 19 "GreenJarsModel" "readJar" "[I") (by decide +kernel)) (fun _ h9 => h9) rfl dX8_readOneJar_242 ?_
      refine lv_iconst (v := (5 : Int32)) hx hb dX8_readOneJar_245 (by decide) ?_
      refine lv_aload_n hx hb dX8_readOneJar_246 rfl (lv_at hl 1 rfl) ?_
      refine va_get (D := (dC, dI)) (ci := 8) (v := .int y_readJars) (C := RX8) (T := TX8) (N := 33) hx hb hts hiX8 hown hK hP 0 rfl rfl 8 (by decide) (hts (.fieldLink RX8 75 "GreenJarsModel" "readJars" "I") (by decide +kernel)) (fun _ h9 => h9) rfl dX8_readOneJar_247 ?_
      refine lv_imul hx hb dX8_readOneJar_250 ?_
      refine lv_iconst (v := (4 : Int32)) hx hb dX8_readOneJar_251 (by decide) ?_
      refine lv_iadd hx hb dX8_readOneJar_252 ?_
      refine lv_iload hx hb dX8_readOneJar_253 (lv_at hl 0 rfl) ?_
      obtain ⟨h6, hf⟩ := g_chk hf
      refine va_iast hx hb hK hP hD hS 2 0 rfl rfl (gIn_vp h6) dX8_readOneJar_255 (fun H locs hP hD hS => ?_)
      have hP : va_P (dC, dI) vwCl (w_X8_readOneJar cI cZ cG o o_text o_kind o_size o_readJar o_page o_trial o_book o_kept o_isKept o_tastedFrom o_tastedTo o_order o_spots o_gains o_value v_thrown v_textSize y_place v_jars (y_readPlaces ||| ((1 : Int32) <<< (x1 &&& 31))) y_readJars v_acts v_tasted v_seed v_some v_rowMany v_rowWay v_stuffWhich v_stuffNear v_keptMany v_keptFirst v_restMany v_restFirst f_text (upd (upd (upd (upd (upd y_readJar ((5 : Int32) * y_readJars).toNatClampNeg x1) (((5 : Int32) * y_readJars) + (1 : Int32)).toNatClampNeg x2) (((5 : Int32) * y_readJars) + (2 : Int32)).toNatClampNeg x3) (((5 : Int32) * y_readJars) + (3 : Int32)).toNatClampNeg x4) (((5 : Int32) * y_readJars) + (4 : Int32)).toNatClampNeg t0)) H := hP
      have hD : va_D A (w_X8_readOneJar cI cZ cG o o_text o_kind o_size o_readJar o_page o_trial o_book o_kept o_isKept o_tastedFrom o_tastedTo o_order o_spots o_gains o_value v_thrown v_textSize y_place v_jars (y_readPlaces ||| ((1 : Int32) <<< (x1 &&& 31))) y_readJars v_acts v_tasted v_seed v_some v_rowMany v_rowWay v_stuffWhich v_stuffNear v_keptMany v_keptFirst v_restMany v_restFirst f_text (upd (upd (upd (upd (upd y_readJar ((5 : Int32) * y_readJars).toNatClampNeg x1) (((5 : Int32) * y_readJars) + (1 : Int32)).toNatClampNeg x2) (((5 : Int32) * y_readJars) + (2 : Int32)).toNatClampNeg x3) (((5 : Int32) * y_readJars) + (3 : Int32)).toNatClampNeg x4) (((5 : Int32) * y_readJars) + (4 : Int32)).toNatClampNeg t0)) := hD
      refine lv_aload_n hx hb dX8_readOneJar_256 rfl (lv_at hl 1 rfl) ?_
      refine lv_dup hx hb dX8_readOneJar_257 rfl ?_
      refine va_get (D := (dC, dI)) (ci := 8) (v := .int y_readJars) (C := RX8) (T := TX8) (N := 33) hx hb hts hiX8 hown hK hP 0 rfl rfl 8 (by decide) (hts (.fieldLink RX8 75 "GreenJarsModel" "readJars" "I") (by decide +kernel)) (fun _ h9 => h9) rfl dX8_readOneJar_258 ?_
      refine lv_iconst (v := (1 : Int32)) hx hb dX8_readOneJar_261 (by decide) ?_
      refine lv_iadd hx hb dX8_readOneJar_262 ?_
      refine va_put (D := (dC, dI)) (ci := 8) (v := .int (y_readJars + (1 : Int32))) (ty := .int) (C := RX8) (T := TX8) (N := 33) hx hb hts hiX8 tyX8 tyX8_ok nmX8 hown hK hP hD hS 0 rfl rfl 8 (by decide) (hts (.fieldLink RX8 75 "GreenJarsModel" "readJars" "I") (by decide +kernel)) (fun _ h9 => h9) rfl (by decide +kernel) rfl rfl (Nat.le_of_ble_eq_true rfl) dX8_readOneJar_263 (fun H locs hP hD hS => ?_)
      have hP : va_P (dC, dI) vwCl (w_X8_readOneJar cI cZ cG o o_text o_kind o_size o_readJar o_page o_trial o_book o_kept o_isKept o_tastedFrom o_tastedTo o_order o_spots o_gains o_value v_thrown v_textSize y_place v_jars (y_readPlaces ||| ((1 : Int32) <<< (x1 &&& 31))) (y_readJars + (1 : Int32)) v_acts v_tasted v_seed v_some v_rowMany v_rowWay v_stuffWhich v_stuffNear v_keptMany v_keptFirst v_restMany v_restFirst f_text (upd (upd (upd (upd (upd y_readJar ((5 : Int32) * y_readJars).toNatClampNeg x1) (((5 : Int32) * y_readJars) + (1 : Int32)).toNatClampNeg x2) (((5 : Int32) * y_readJars) + (2 : Int32)).toNatClampNeg x3) (((5 : Int32) * y_readJars) + (3 : Int32)).toNatClampNeg x4) (((5 : Int32) * y_readJars) + (4 : Int32)).toNatClampNeg t0)) H := hP
      have hD : va_D A (w_X8_readOneJar cI cZ cG o o_text o_kind o_size o_readJar o_page o_trial o_book o_kept o_isKept o_tastedFrom o_tastedTo o_order o_spots o_gains o_value v_thrown v_textSize y_place v_jars (y_readPlaces ||| ((1 : Int32) <<< (x1 &&& 31))) (y_readJars + (1 : Int32)) v_acts v_tasted v_seed v_some v_rowMany v_rowWay v_stuffWhich v_stuffNear v_keptMany v_keptFirst v_restMany v_restFirst f_text (upd (upd (upd (upd (upd y_readJar ((5 : Int32) * y_readJars).toNatClampNeg x1) (((5 : Int32) * y_readJars) + (1 : Int32)).toNatClampNeg x2) (((5 : Int32) * y_readJars) + (2 : Int32)).toNatClampNeg x3) (((5 : Int32) * y_readJars) + (3 : Int32)).toNatClampNeg x4) (((5 : Int32) * y_readJars) + (4 : Int32)).toNatClampNeg t0)) := hD
      refine lv_iconst (v := (1 : Int32)) hx hb dX8_readOneJar_266 (by decide) ?_
      rw [hQ]
      cases hf
      exact W.zret hx hb hr (by decide +kernel) (fun t ht hW => ⟨⟨_, (), rfl, rfl, by rw [ht]; exact hP, va_K.moved hW.alike hK, hD⟩, hS.F ht⟩) hS.2.2 dX8_readOneJar_267
    · have hf := g_pos c1 hf
      refine lv_iconst (v := (0 : Int32)) hx hb dX8_readOneJar_172 (by decide) ?_
      rw [hQ]
      cases hf
      exact W.zret hx hb hr (by decide +kernel) (fun t ht hW => ⟨⟨_, (), rfl, rfl, by rw [ht]; exact hP, va_K.moved hW.alike hK, hD⟩, hS.F ht⟩) hS.2.2 dX8_readOneJar_173
  have J142 : ∀ (x1 : Int32) (x2 : Int32) (x3 : Int32) (t0 : Int32) (y_place : Int32) (y_readPlaces : Int32) (y_readJars : Int32) (y_readJar : Nat → Int32) (H : Heap) (locs : List Loc) (ls : Array Slot), x8_readOneJar_b142 v_textSize f_text x1 x2 x3 t0 y_place y_readPlaces y_readJars y_readJar = some (r0, n_place, n_readPlaces, n_readJars, n_readJar) → lv_has ls 6 [(0, .ref o), (1, .int x1), (2, .int x2), (3, .int x3)] → va_P (dC, dI) vwCl (w_X8_readOneJar cI cZ cG o o_text o_kind o_size o_readJar o_page o_trial o_book o_kept o_isKept o_tastedFrom o_tastedTo o_order o_spots o_gains o_value v_thrown v_textSize y_place v_jars y_readPlaces y_readJars v_acts v_tasted v_seed v_some v_rowMany v_rowWay v_stuffWhich v_stuffNear v_keptMany v_keptFirst v_restMany v_restFirst f_text y_readJar) H → va_D A (w_X8_readOneJar cI cZ cG o o_text o_kind o_size o_readJar o_page o_trial o_book o_kept o_isKept o_tastedFrom o_tastedTo o_order o_spots o_gains o_value v_thrown v_textSize y_place v_jars y_readPlaces y_readJars v_acts v_tasted v_seed v_some v_rowMany v_rowWay v_stuffWhich v_stuffNear v_keptMany v_keptFirst v_restMany v_restFirst f_text y_readJar) → va_S A s.heap H locs → W p l e rm_X8_readOneJar s m (([Value.ref o] : List Value).toArray) below meth c H locs 0 0 Q (F0 m 142 ls [.int t0]) := by
    intro x1 x2 x3 t0 y_place y_readPlaces y_readJars y_readJar H locs ls hf hl hP hD hS
    unfold x8_readOneJar_b142 at hf
    refine lv_istore (lv' := [(4, .int t0), (0, .ref o), (1, .int x1), (2, .int x2), (3, .int x3)]) hx hb dX8_readOneJar_142 hl (by decide) rfl (fun ls hl => ?_)
    refine lv_iload hx hb dX8_readOneJar_144 (lv_at hl 0 rfl) ?_
    refine lv_bipush (v := (-9 : Int32)) hx hb dX8_readOneJar_146 (by decide +kernel) ?_
    refine lv_icmp_ne (tgt := 156) hx hb dX8_readOneJar_148 (by decide) (fun c7 => ?_) (fun c7 => ?_)
    · have hf := g_neg c7 hf
      refine lv_aload_n hx hb dX8_readOneJar_156 rfl (lv_at hl 1 rfl) ?_
      refine lv_iconst (v := (1 : Int32)) hx hb dX8_readOneJar_157 (by decide) ?_
      refine lv_bipush (v := (9 : Int32)) hx hb dX8_readOneJar_158 (by decide +kernel) ?_
      obtain ⟨r8, y9, hc10, hf⟩ := g_b2 hf
      refine g_wV (As := [.int (1 : Int32), .int (9 : Int32)]) (rest := []) (wr := [(o_readJar, .inl (cI, 30, .inl y_readJar))]) (wn := (w_X8_readOneJar cI cZ cG o o_text o_kind o_size o_readJar o_page o_trial o_book o_kept o_isKept o_tastedFrom o_tastedTo o_order o_spots o_gains o_value v_thrown v_textSize y9 v_jars y_readPlaces y_readJars v_acts v_tasted v_seed v_some v_rowMany v_rowWay v_stuffWhich v_stuffNear v_keptMany v_keptFirst v_restMany v_restFirst f_text y_readJar)) ⟨hx, hb, hml, hown, hts⟩ (c_X8_figure l dC dI cI cZ cG o o_text o_kind o_size o_readJar o_page o_trial o_book o_kept o_isKept o_tastedFrom o_tastedTo o_order o_spots o_gains o_value H.size  v_thrown v_textSize y_place v_jars y_readPlaces y_readJars v_acts v_tasted v_seed v_some v_rowMany v_rowWay v_stuffWhich v_stuffNear v_keptMany v_keptFirst v_restMany v_restFirst f_text (1 : Int32) (9 : Int32) hc10) (cwV 2 hts gX8_readOneJar_X8_figure rfl rfl rfl (by decide +kernel) ⟨Nat.le_of_ble_eq_true rfl, Nat.le_of_ble_eq_true rfl⟩) hK hN hP hD hS hA [0, 1] [2] [1, 2, 0] rfl rfl (by decide) rfl (by decide) (by decide) rfl (by decide) (va_recv hK hP (ci := 8) (q0 := 0) rfl rfl) rfl hl.1 rfl (Nat.le_of_ble_eq_true rfl) dX8_readOneJar_160 ⟨Nat.zero_le _, Nat.zero_le _⟩ (fun H locs hP hD hS => ?_)
      exact J163 x1 x2 x3 t0 r8 y9 y_readPlaces y_readJars y_readJar H locs ls hf (lv_sub hl [1, 2, 3, 4, 0] rfl) hP hD hS
    · have hf := g_pos c7 hf
      refine lv_bipush (v := (-9 : Int32)) hx hb dX8_readOneJar_151 (by decide +kernel) ?_
      refine lv_goto (tgt := 163) hx hb dX8_readOneJar_153 (by decide) ?_
      exact J163 x1 x2 x3 t0 (-9 : Int32) y_place y_readPlaces y_readJars y_readJar H locs ls hf (lv_sub hl [1, 2, 3, 4, 0] rfl) hP hD hS
  have J124 : ∀ (x1 : Int32) (x2 : Int32) (t0 : Int32) (y_place : Int32) (y_readPlaces : Int32) (y_readJars : Int32) (y_readJar : Nat → Int32) (H : Heap) (locs : List Loc) (ls : Array Slot), x8_readOneJar_b124 v_textSize f_text x1 x2 t0 y_place y_readPlaces y_readJars y_readJar = some (r0, n_place, n_readPlaces, n_readJars, n_readJar) → lv_has ls 6 [(0, .ref o), (1, .int x1), (2, .int x2)] → va_P (dC, dI) vwCl (w_X8_readOneJar cI cZ cG o o_text o_kind o_size o_readJar o_page o_trial o_book o_kept o_isKept o_tastedFrom o_tastedTo o_order o_spots o_gains o_value v_thrown v_textSize y_place v_jars y_readPlaces y_readJars v_acts v_tasted v_seed v_some v_rowMany v_rowWay v_stuffWhich v_stuffNear v_keptMany v_keptFirst v_restMany v_restFirst f_text y_readJar) H → va_D A (w_X8_readOneJar cI cZ cG o o_text o_kind o_size o_readJar o_page o_trial o_book o_kept o_isKept o_tastedFrom o_tastedTo o_order o_spots o_gains o_value v_thrown v_textSize y_place v_jars y_readPlaces y_readJars v_acts v_tasted v_seed v_some v_rowMany v_rowWay v_stuffWhich v_stuffNear v_keptMany v_keptFirst v_restMany v_restFirst f_text y_readJar) → va_S A s.heap H locs → W p l e rm_X8_readOneJar s m (([Value.ref o] : List Value).toArray) below meth c H locs 0 0 Q (F0 m 124 ls [.int t0]) := by
    intro x1 x2 t0 y_place y_readPlaces y_readJars y_readJar H locs ls hf hl hP hD hS
    unfold x8_readOneJar_b124 at hf
    refine lv_istore_n (lv' := [(3, .int t0), (0, .ref o), (1, .int x1), (2, .int x2)]) hx hb dX8_readOneJar_124 rfl hl (by decide) rfl (fun ls hl => ?_)
    refine lv_iload_n hx hb dX8_readOneJar_125 rfl (lv_at hl 0 rfl) ?_
    refine lv_bipush (v := (-9 : Int32)) hx hb dX8_readOneJar_126 (by decide +kernel) ?_
    refine lv_icmp_ne (tgt := 136) hx hb dX8_readOneJar_128 (by decide) (fun c11 => ?_) (fun c11 => ?_)
    · have hf := g_neg c11 hf
      refine lv_aload_n hx hb dX8_readOneJar_136 rfl (lv_at hl 1 rfl) ?_
      refine lv_iconst (v := (0 : Int32)) hx hb dX8_readOneJar_137 (by decide) ?_
      refine lv_iconst (v := (3 : Int32)) hx hb dX8_readOneJar_138 (by decide) ?_
      obtain ⟨r12, y13, hc14, hf⟩ := g_b2 hf
      refine g_wV (As := [.int (0 : Int32), .int (3 : Int32)]) (rest := []) (wr := [(o_readJar, .inl (cI, 30, .inl y_readJar))]) (wn := (w_X8_readOneJar cI cZ cG o o_text o_kind o_size o_readJar o_page o_trial o_book o_kept o_isKept o_tastedFrom o_tastedTo o_order o_spots o_gains o_value v_thrown v_textSize y13 v_jars y_readPlaces y_readJars v_acts v_tasted v_seed v_some v_rowMany v_rowWay v_stuffWhich v_stuffNear v_keptMany v_keptFirst v_restMany v_restFirst f_text y_readJar)) ⟨hx, hb, hml, hown, hts⟩ (c_X8_figure l dC dI cI cZ cG o o_text o_kind o_size o_readJar o_page o_trial o_book o_kept o_isKept o_tastedFrom o_tastedTo o_order o_spots o_gains o_value H.size  v_thrown v_textSize y_place v_jars y_readPlaces y_readJars v_acts v_tasted v_seed v_some v_rowMany v_rowWay v_stuffWhich v_stuffNear v_keptMany v_keptFirst v_restMany v_restFirst f_text (0 : Int32) (3 : Int32) hc14) (cwV 2 hts gX8_readOneJar_X8_figure rfl rfl rfl (by decide +kernel) ⟨Nat.le_of_ble_eq_true rfl, Nat.le_of_ble_eq_true rfl⟩) hK hN hP hD hS hA [0, 1] [2] [1, 2, 0] rfl rfl (by decide) rfl (by decide) (by decide) rfl (by decide) (va_recv hK hP (ci := 8) (q0 := 0) rfl rfl) rfl hl.1 rfl (Nat.le_of_ble_eq_true rfl) dX8_readOneJar_139 ⟨Nat.zero_le _, Nat.zero_le _⟩ (fun H locs hP hD hS => ?_)
      exact J142 x1 x2 t0 r12 y13 y_readPlaces y_readJars y_readJar H locs ls hf (lv_sub hl [1, 2, 3, 0] rfl) hP hD hS
    · have hf := g_pos c11 hf
      refine lv_bipush (v := (-9 : Int32)) hx hb dX8_readOneJar_131 (by decide +kernel) ?_
      refine lv_goto (tgt := 142) hx hb dX8_readOneJar_133 (by decide) ?_
      exact J142 x1 x2 t0 (-9 : Int32) y_place y_readPlaces y_readJars y_readJar H locs ls hf (lv_sub hl [1, 2, 3, 0] rfl) hP hD hS
  have J63 : ∀ (t0 : Int32) (y_place : Int32) (y_readPlaces : Int32) (y_readJars : Int32) (y_readJar : Nat → Int32) (H : Heap) (locs : List Loc) (ls : Array Slot), x8_readOneJar_b63 v_textSize f_text t0 y_place y_readPlaces y_readJars y_readJar = some (r0, n_place, n_readPlaces, n_readJars, n_readJar) → lv_has ls 6 [(0, .ref o)] → va_P (dC, dI) vwCl (w_X8_readOneJar cI cZ cG o o_text o_kind o_size o_readJar o_page o_trial o_book o_kept o_isKept o_tastedFrom o_tastedTo o_order o_spots o_gains o_value v_thrown v_textSize y_place v_jars y_readPlaces y_readJars v_acts v_tasted v_seed v_some v_rowMany v_rowWay v_stuffWhich v_stuffNear v_keptMany v_keptFirst v_restMany v_restFirst f_text y_readJar) H → va_D A (w_X8_readOneJar cI cZ cG o o_text o_kind o_size o_readJar o_page o_trial o_book o_kept o_isKept o_tastedFrom o_tastedTo o_order o_spots o_gains o_value v_thrown v_textSize y_place v_jars y_readPlaces y_readJars v_acts v_tasted v_seed v_some v_rowMany v_rowWay v_stuffWhich v_stuffNear v_keptMany v_keptFirst v_restMany v_restFirst f_text y_readJar) → va_S A s.heap H locs → W p l e rm_X8_readOneJar s m (([Value.ref o] : List Value).toArray) below meth c H locs 0 0 Q (F0 m 63 ls [.int t0]) := by
    intro t0 y_place y_readPlaces y_readJars y_readJar H locs ls hf hl hP hD hS
    unfold x8_readOneJar_b63 at hf
    refine lv_istore_n (lv' := [(1, .int t0), (0, .ref o)]) hx hb dX8_readOneJar_63 rfl hl (by decide) rfl (fun ls hl => ?_)
    refine lv_iload_n hx hb dX8_readOneJar_64 rfl (lv_at hl 0 rfl) ?_
    refine lv_i2l hx hb dX8_readOneJar_65 rfl ?_
    refine lv_lconst (v := (0 : Int64)) hx hb dX8_readOneJar_66 (by decide) ?_
    refine lv_ldc2 (v := (7 : Int64)) hx hb hown (hts (.constantLong RX8 78 (7 : Int64)) (by decide +kernel)) dX8_readOneJar_67 ?_
    obtain ⟨r15, hc16, hf⟩ := g_b1 hf
    refine g_rS (As := [.long t0.toInt64, .long (0 : Int64), .long (7 : Int64)]) (rest := []) ⟨hx, hb, hml, hown, hts⟩ (c_X8_in l dC dI cI cZ cG    t0.toInt64 (0 : Int64) (7 : Int64) hc16) (va_cwS 3 hts gX8_readOneJar_X8_in rfl rfl rfl (by decide +kernel) ⟨Nat.le_of_ble_eq_true rfl, Nat.le_of_ble_eq_true rfl⟩) hK hN (hP.sub [] rfl) rfl hl.1 rfl (Nat.le_of_ble_eq_true rfl) dX8_readOneJar_70 ⟨Nat.zero_le _, Nat.zero_le _⟩ ?_
    refine lv_if_eq (tgt := 87) hx hb dX8_readOneJar_73 (by decide) (fun c17 => ?_) (fun c17 => ?_)
    · have hf := g_pos c17 hf
      refine lv_iconst (v := (0 : Int32)) hx hb dX8_readOneJar_87 (by decide) ?_
      rw [hQ]
      cases hf
      exact W.zret hx hb hr (by decide +kernel) (fun t ht hW => ⟨⟨_, (), rfl, rfl, by rw [ht]; exact hP, va_K.moved hW.alike hK, hD⟩, hS.F ht⟩) hS.2.2 dX8_readOneJar_88
    · have hf := g_neg c17 hf
      refine lv_aload_n hx hb dX8_readOneJar_76 rfl (lv_at hl 1 rfl) ?_
      refine va_get (D := (dC, dI)) (ci := 8) (v := .int y_readPlaces) (C := RX8) (T := TX8) (N := 33) hx hb hts hiX8 hown hK hP 0 rfl rfl 7 (by decide) (hts (.fieldLink RX8 80 "GreenJarsModel" "readPlaces" "I") (by decide +kernel)) (fun _ h9 => h9) rfl dX8_readOneJar_77 ?_
      refine lv_iload_n hx hb dX8_readOneJar_80 rfl (lv_at hl 0 rfl) ?_
      obtain ⟨r18, hc19, hf⟩ := g_b1 hf
      refine g_rS (As := [.int y_readPlaces, .int t0]) (rest := []) ⟨hx, hb, hml, hown, hts⟩ (c_X8_has l dC dI cI cZ cG    y_readPlaces t0 hc19) (va_cwS 2 hts gX8_readOneJar_X8_has rfl rfl rfl (by decide +kernel) ⟨Nat.le_of_ble_eq_true rfl, Nat.le_of_ble_eq_true rfl⟩) hK hN (hP.sub [] rfl) rfl hl.1 rfl (Nat.le_of_ble_eq_true rfl) dX8_readOneJar_81 ⟨Nat.zero_le _, Nat.zero_le _⟩ ?_
      refine lv_if_eq (tgt := 89) hx hb dX8_readOneJar_84 (by decide) (fun c20 => ?_) (fun c20 => ?_)
      · have hf := g_pos c20 hf
        refine lv_aload_n hx hb dX8_readOneJar_89 rfl (lv_at hl 1 rfl) ?_
        refine lv_dup hx hb dX8_readOneJar_90 rfl ?_
        refine va_get (D := (dC, dI)) (ci := 8) (v := .int y_place) (C := RX8) (T := TX8) (N := 33) hx hb hts hiX8 hown hK hP 0 rfl rfl 3 (by decide) (hts (.fieldLink RX8 72 "GreenJarsModel" "place" "I") (by decide +kernel)) (fun _ h9 => h9) rfl dX8_readOneJar_91 ?_
        refine lv_iconst (v := (1 : Int32)) hx hb dX8_readOneJar_94 (by decide) ?_
        refine lv_iadd hx hb dX8_readOneJar_95 ?_
        refine va_put (D := (dC, dI)) (ci := 8) (v := .int (y_place + (1 : Int32))) (ty := .int) (C := RX8) (T := TX8) (N := 33) hx hb hts hiX8 tyX8 tyX8_ok nmX8 hown hK hP hD hS 0 rfl rfl 3 (by decide) (hts (.fieldLink RX8 72 "GreenJarsModel" "place" "I") (by decide +kernel)) (fun _ h9 => h9) rfl (by decide +kernel) rfl rfl (Nat.le_of_ble_eq_true rfl) dX8_readOneJar_96 (fun H locs hP hD hS => ?_)
        have hP : va_P (dC, dI) vwCl (w_X8_readOneJar cI cZ cG o o_text o_kind o_size o_readJar o_page o_trial o_book o_kept o_isKept o_tastedFrom o_tastedTo o_order o_spots o_gains o_value v_thrown v_textSize (y_place + (1 : Int32)) v_jars y_readPlaces y_readJars v_acts v_tasted v_seed v_some v_rowMany v_rowWay v_stuffWhich v_stuffNear v_keptMany v_keptFirst v_restMany v_restFirst f_text y_readJar) H := hP
        have hD : va_D A (w_X8_readOneJar cI cZ cG o o_text o_kind o_size o_readJar o_page o_trial o_book o_kept o_isKept o_tastedFrom o_tastedTo o_order o_spots o_gains o_value v_thrown v_textSize (y_place + (1 : Int32)) v_jars y_readPlaces y_readJars v_acts v_tasted v_seed v_some v_rowMany v_rowWay v_stuffWhich v_stuffNear v_keptMany v_keptFirst v_restMany v_restFirst f_text y_readJar) := hD
        refine lv_aload_n hx hb dX8_readOneJar_99 rfl (lv_at hl 1 rfl) ?_
        refine lv_iconst (v := (0 : Int32)) hx hb dX8_readOneJar_100 (by decide) ?_
        refine lv_bipush (v := (9 : Int32)) hx hb dX8_readOneJar_101 (by decide +kernel) ?_
        obtain ⟨r21, y22, hc23, hf⟩ := g_b2 hf
        refine g_wV (As := [.int (0 : Int32), .int (9 : Int32)]) (rest := []) (wr := [(o_readJar, .inl (cI, 30, .inl y_readJar))]) (wn := (w_X8_readOneJar cI cZ cG o o_text o_kind o_size o_readJar o_page o_trial o_book o_kept o_isKept o_tastedFrom o_tastedTo o_order o_spots o_gains o_value v_thrown v_textSize y22 v_jars y_readPlaces y_readJars v_acts v_tasted v_seed v_some v_rowMany v_rowWay v_stuffWhich v_stuffNear v_keptMany v_keptFirst v_restMany v_restFirst f_text y_readJar)) ⟨hx, hb, hml, hown, hts⟩ (c_X8_figure l dC dI cI cZ cG o o_text o_kind o_size o_readJar o_page o_trial o_book o_kept o_isKept o_tastedFrom o_tastedTo o_order o_spots o_gains o_value H.size  v_thrown v_textSize (y_place + (1 : Int32)) v_jars y_readPlaces y_readJars v_acts v_tasted v_seed v_some v_rowMany v_rowWay v_stuffWhich v_stuffNear v_keptMany v_keptFirst v_restMany v_restFirst f_text (0 : Int32) (9 : Int32) hc23) (cwV 2 hts gX8_readOneJar_X8_figure rfl rfl rfl (by decide +kernel) ⟨Nat.le_of_ble_eq_true rfl, Nat.le_of_ble_eq_true rfl⟩) hK hN hP hD hS hA [0, 1] [2] [1, 2, 0] rfl rfl (by decide) rfl (by decide) (by decide) rfl (by decide) (va_recv hK hP (ci := 8) (q0 := 0) rfl rfl) rfl hl.1 rfl (Nat.le_of_ble_eq_true rfl) dX8_readOneJar_103 ⟨Nat.zero_le _, Nat.zero_le _⟩ (fun H locs hP hD hS => ?_)
        refine lv_istore_n (lv' := [(2, .int r21), (1, .int t0), (0, .ref o)]) hx hb dX8_readOneJar_106 rfl hl (by decide) rfl (fun ls hl => ?_)
        refine lv_iload_n hx hb dX8_readOneJar_107 rfl (lv_at hl 0 rfl) ?_
        refine lv_bipush (v := (-9 : Int32)) hx hb dX8_readOneJar_108 (by decide +kernel) ?_
        refine lv_icmp_ne (tgt := 118) hx hb dX8_readOneJar_110 (by decide) (fun c24 => ?_) (fun c24 => ?_)
        · have hf := g_neg c24 hf
          refine lv_aload_n hx hb dX8_readOneJar_118 rfl (lv_at hl 2 rfl) ?_
          refine lv_iconst (v := (0 : Int32)) hx hb dX8_readOneJar_119 (by decide) ?_
          refine lv_iconst (v := (3 : Int32)) hx hb dX8_readOneJar_120 (by decide) ?_
          obtain ⟨r25, y26, hc27, hf⟩ := g_b2 hf
          refine g_wV (As := [.int (0 : Int32), .int (3 : Int32)]) (rest := []) (wr := [(o_readJar, .inl (cI, 30, .inl y_readJar))]) (wn := (w_X8_readOneJar cI cZ cG o o_text o_kind o_size o_readJar o_page o_trial o_book o_kept o_isKept o_tastedFrom o_tastedTo o_order o_spots o_gains o_value v_thrown v_textSize y26 v_jars y_readPlaces y_readJars v_acts v_tasted v_seed v_some v_rowMany v_rowWay v_stuffWhich v_stuffNear v_keptMany v_keptFirst v_restMany v_restFirst f_text y_readJar)) ⟨hx, hb, hml, hown, hts⟩ (c_X8_figure l dC dI cI cZ cG o o_text o_kind o_size o_readJar o_page o_trial o_book o_kept o_isKept o_tastedFrom o_tastedTo o_order o_spots o_gains o_value H.size  v_thrown v_textSize y22 v_jars y_readPlaces y_readJars v_acts v_tasted v_seed v_some v_rowMany v_rowWay v_stuffWhich v_stuffNear v_keptMany v_keptFirst v_restMany v_restFirst f_text (0 : Int32) (3 : Int32) hc27) (cwV 2 hts gX8_readOneJar_X8_figure rfl rfl rfl (by decide +kernel) ⟨Nat.le_of_ble_eq_true rfl, Nat.le_of_ble_eq_true rfl⟩) hK hN hP hD hS hA [0, 1] [2] [1, 2, 0] rfl rfl (by decide) rfl (by decide) (by decide) rfl (by decide) (va_recv hK hP (ci := 8) (q0 := 0) rfl rfl) rfl hl.1 rfl (Nat.le_of_ble_eq_true rfl) dX8_readOneJar_121 ⟨Nat.zero_le _, Nat.zero_le _⟩ (fun H locs hP hD hS => ?_)
          exact J124 t0 r21 r25 y26 y_readPlaces y_readJars y_readJar H locs ls hf (lv_sub hl [2, 1, 0] rfl) hP hD hS
        · have hf := g_pos c24 hf
          refine lv_bipush (v := (-9 : Int32)) hx hb dX8_readOneJar_113 (by decide +kernel) ?_
          refine lv_goto (tgt := 124) hx hb dX8_readOneJar_115 (by decide) ?_
          exact J124 t0 r21 (-9 : Int32) y22 y_readPlaces y_readJars y_readJar H locs ls hf (lv_sub hl [2, 1, 0] rfl) hP hD hS
      · have hf := g_neg c20 hf
        refine lv_iconst (v := (0 : Int32)) hx hb dX8_readOneJar_87 (by decide) ?_
        rw [hQ]
        cases hf
        exact W.zret hx hb hr (by decide +kernel) (fun t ht hW => ⟨⟨_, (), rfl, rfl, by rw [ht]; exact hP, va_K.moved hW.alike hK, hD⟩, hS.F ht⟩) hS.2.2 dX8_readOneJar_88
  unfold x8_readOneJar at hf
  refine lv_aload_n hx hb dX8_readOneJar_0 rfl (lv_at hl 0 rfl) ?_
  refine va_get (D := (dC, dI)) (ci := 8) (v := .ref o_text) (C := RX8) (T := TX8) (N := 33) hx hb hts hiX8 hown hK hP 0 rfl rfl 1 (by decide) (hts (.fieldLink RX8 7 "GreenJarsModel" "text" "[I") (by decide +kernel)) (fun _ h9 => h9) rfl dX8_readOneJar_1 ?_
  refine lv_aload_n hx hb dX8_readOneJar_4 rfl (lv_at hl 0 rfl) ?_
  refine va_get (D := (dC, dI)) (ci := 8) (v := .int v_place) (C := RX8) (T := TX8) (N := 33) hx hb hts hiX8 hown hK hP 0 rfl rfl 3 (by decide) (hts (.fieldLink RX8 72 "GreenJarsModel" "place" "I") (by decide +kernel)) (fun _ h9 => h9) rfl dX8_readOneJar_5 ?_
  obtain ⟨h28, hf⟩ := g_chk hf
  refine va_iald hx hb hK hP 1 0 rfl rfl (gIn_vp h28) dX8_readOneJar_8 ?_
  refine lv_bipush (v := (74 : Int32)) hx hb dX8_readOneJar_9 (by decide +kernel) ?_
  refine lv_icmp_ne (tgt := 23) hx hb dX8_readOneJar_11 (by decide) (fun c29 => ?_) (fun c29 => ?_)
  · have hf := g_neg c29 hf
    refine lv_iconst (v := (0 : Int32)) hx hb dX8_readOneJar_23 (by decide) ?_
    rw [hQ]
    cases hf
    exact W.zret hx hb hr (by decide +kernel) (fun t ht hW => ⟨⟨_, (), rfl, rfl, by rw [ht]; exact hP, va_K.moved hW.alike hK, hD⟩, hS.F ht⟩) hS.2.2 dX8_readOneJar_24
  · have hf := g_pos c29 hf
    refine lv_aload_n hx hb dX8_readOneJar_14 rfl (lv_at hl 0 rfl) ?_
    refine va_get (D := (dC, dI)) (ci := 8) (v := .int v_readJars) (C := RX8) (T := TX8) (N := 33) hx hb hts hiX8 hown hK hP 0 rfl rfl 8 (by decide) (hts (.fieldLink RX8 75 "GreenJarsModel" "readJars" "I") (by decide +kernel)) (fun _ h9 => h9) rfl dX8_readOneJar_15 ?_
    refine lv_bipush (v := (6 : Int32)) hx hb dX8_readOneJar_18 (by decide +kernel) ?_
    refine lv_icmp_ne (tgt := 25) hx hb dX8_readOneJar_20 (by decide) (fun c30 => ?_) (fun c30 => ?_)
    · have hf := g_neg c30 hf
      refine lv_aload_n hx hb dX8_readOneJar_25 rfl (lv_at hl 0 rfl) ?_
      refine lv_dup hx hb dX8_readOneJar_26 rfl ?_
      refine va_get (D := (dC, dI)) (ci := 8) (v := .int v_place) (C := RX8) (T := TX8) (N := 33) hx hb hts hiX8 hown hK hP 0 rfl rfl 3 (by decide) (hts (.fieldLink RX8 72 "GreenJarsModel" "place" "I") (by decide +kernel)) (fun _ h9 => h9) rfl dX8_readOneJar_27 ?_
      refine lv_iconst (v := (1 : Int32)) hx hb dX8_readOneJar_30 (by decide) ?_
      refine lv_iadd hx hb dX8_readOneJar_31 ?_
      refine va_put (D := (dC, dI)) (ci := 8) (v := .int (v_place + (1 : Int32))) (ty := .int) (C := RX8) (T := TX8) (N := 33) hx hb hts hiX8 tyX8 tyX8_ok nmX8 hown hK hP hD hS 0 rfl rfl 3 (by decide) (hts (.fieldLink RX8 72 "GreenJarsModel" "place" "I") (by decide +kernel)) (fun _ h9 => h9) rfl (by decide +kernel) rfl rfl (Nat.le_of_ble_eq_true rfl) dX8_readOneJar_32 (fun H locs hP hD hS => ?_)
      have hP : va_P (dC, dI) vwCl (w_X8_readOneJar cI cZ cG o o_text o_kind o_size o_readJar o_page o_trial o_book o_kept o_isKept o_tastedFrom o_tastedTo o_order o_spots o_gains o_value v_thrown v_textSize (v_place + (1 : Int32)) v_jars v_readPlaces v_readJars v_acts v_tasted v_seed v_some v_rowMany v_rowWay v_stuffWhich v_stuffNear v_keptMany v_keptFirst v_restMany v_restFirst f_text f_readJar) H := hP
      have hD : va_D A (w_X8_readOneJar cI cZ cG o o_text o_kind o_size o_readJar o_page o_trial o_book o_kept o_isKept o_tastedFrom o_tastedTo o_order o_spots o_gains o_value v_thrown v_textSize (v_place + (1 : Int32)) v_jars v_readPlaces v_readJars v_acts v_tasted v_seed v_some v_rowMany v_rowWay v_stuffWhich v_stuffNear v_keptMany v_keptFirst v_restMany v_restFirst f_text f_readJar) := hD
      refine lv_aload_n hx hb dX8_readOneJar_35 rfl (lv_at hl 0 rfl) ?_
      refine va_get (D := (dC, dI)) (ci := 8) (v := .int (v_place + (1 : Int32))) (C := RX8) (T := TX8) (N := 33) hx hb hts hiX8 hown hK hP 0 rfl rfl 3 (by decide) (hts (.fieldLink RX8 72 "GreenJarsModel" "place" "I") (by decide +kernel)) (fun _ h9 => h9) rfl dX8_readOneJar_36 ?_
      refine lv_aload_n hx hb dX8_readOneJar_39 rfl (lv_at hl 0 rfl) ?_
      refine va_get (D := (dC, dI)) (ci := 8) (v := .int v_textSize) (C := RX8) (T := TX8) (N := 33) hx hb hts hiX8 hown hK hP 0 rfl rfl 2 (by decide) (hts (.fieldLink RX8 69 "GreenJarsModel" "textSize" "I") (by decide +kernel)) (fun _ h9 => h9) rfl dX8_readOneJar_40 ?_
      refine lv_icmp_ge (tgt := 61) hx hb dX8_readOneJar_43 (by decide) (fun c31 => ?_) (fun c31 => ?_)
      · have hf := g_pos c31 hf
        refine lv_bipush (v := (-9 : Int32)) hx hb dX8_readOneJar_61 (by decide +kernel) ?_
        exact J63 (-9 : Int32) (v_place + (1 : Int32)) v_readPlaces v_readJars f_readJar H locs ls hf (lv_sub hl [0] rfl) hP hD hS
      · have hf := g_neg c31 hf
        refine lv_aload_n hx hb dX8_readOneJar_46 rfl (lv_at hl 0 rfl) ?_
        refine va_get (D := (dC, dI)) (ci := 8) (v := .ref o_text) (C := RX8) (T := TX8) (N := 33) hx hb hts hiX8 hown hK hP 0 rfl rfl 1 (by decide) (hts (.fieldLink RX8 7 "GreenJarsModel" "text" "[I") (by decide +kernel)) (fun _ h9 => h9) rfl dX8_readOneJar_47 ?_
        refine lv_aload_n hx hb dX8_readOneJar_50 rfl (lv_at hl 0 rfl) ?_
        refine va_get (D := (dC, dI)) (ci := 8) (v := .int (v_place + (1 : Int32))) (C := RX8) (T := TX8) (N := 33) hx hb hts hiX8 hown hK hP 0 rfl rfl 3 (by decide) (hts (.fieldLink RX8 72 "GreenJarsModel" "place" "I") (by decide +kernel)) (fun _ h9 => h9) rfl dX8_readOneJar_51 ?_
        obtain ⟨h32, hf⟩ := g_chk hf
        refine va_iald hx hb hK hP 1 0 rfl rfl (gIn_vp h32) dX8_readOneJar_54 ?_
        refine lv_bipush (v := (48 : Int32)) hx hb dX8_readOneJar_55 (by decide +kernel) ?_
        refine lv_isub hx hb dX8_readOneJar_57 ?_
        refine lv_goto (tgt := 63) hx hb dX8_readOneJar_58 (by decide) ?_
        exact J63 ((f_text (v_place + (1 : Int32)).toNatClampNeg) - (48 : Int32)) (v_place + (1 : Int32)) v_readPlaces v_readJars f_readJar H locs ls hf (lv_sub hl [0] rfl) hP hD hS
    · have hf := g_pos c30 hf
      refine lv_iconst (v := (0 : Int32)) hx hb dX8_readOneJar_23 (by decide) ?_
      rw [hQ]
      cases hf
      exact W.zret hx hb hr (by decide +kernel) (fun t ht hW => ⟨⟨_, (), rfl, rfl, by rw [ht]; exact hP, va_K.moved hW.alike hK, hD⟩, hS.F ht⟩) hS.2.2 dX8_readOneJar_24
abbrev rm_X8_readSale : Room := { frames := 3, cells := 0, slots := 0, locals := 72 }
abbrev w_X8_readSale (cI cZ cG : ClassId) (o : Nat) (o_text : Nat) (o_kind : Nat) (o_size : Nat) (o_readJar : Nat) (o_page : Nat) (o_trial : Nat) (o_book : Nat) (o_kept : Nat) (o_isKept : Nat) (o_tastedFrom : Nat) (o_tastedTo : Nat) (o_order : Nat) (o_spots : Nat) (o_gains : Nat) (o_value : Nat) (v_thrown : Int32) (v_textSize : Int32) (v_place : Int32) (v_jars : Int32) (v_readPlaces : Int32) (v_readJars : Int32) (v_acts : Int32) (v_tasted : Int32) (v_seed : Int64) (v_some : Int32) (v_rowMany : Int32) (v_rowWay : Int32) (v_stuffWhich : Int32) (v_stuffNear : Int32) (v_keptMany : Int32) (v_keptFirst : Int32) (v_restMany : Int32) (v_restFirst : Int32) (f_text : Nat → Int32) (f_readJar : Nat → Int32) : va_W := [(o, .inr (8, [.int v_thrown, .ref o_text, .int v_textSize, .int v_place, .int v_jars, .ref o_kind, .ref o_size, .int v_readPlaces, .int v_readJars, .ref o_readJar, .ref o_page, .ref o_trial, .ref o_book, .int v_acts, .ref o_kept, .ref o_isKept, .int v_tasted, .ref o_tastedFrom, .ref o_tastedTo, .long v_seed, .int v_some, .ref o_order, .ref o_spots, .int v_rowMany, .int v_rowWay, .int v_stuffWhich, .int v_stuffNear, .int v_keptMany, .int v_keptFirst, .int v_restMany, .int v_restFirst, .ref o_gains, .ref o_value])), (o_text, .inl (cI, 48, .inl f_text)), (o_readJar, .inl (cI, 30, .inl f_readJar))]
set_option maxHeartbeats 4000000 in
set_option maxRecDepth 100000 in
theorem c_X8_readSale (l : Launch) (dC : Nat → ClassId) (dI : Nat → Nat → Nat) (cI cZ cG : ClassId) {N : Nat} (o : Nat) (o_text : Nat) (o_kind : Nat) (o_size : Nat) (o_readJar : Nat) (o_page : Nat) (o_trial : Nat) (o_book : Nat) (o_kept : Nat) (o_isKept : Nat) (o_tastedFrom : Nat) (o_tastedTo : Nat) (o_order : Nat) (o_spots : Nat) (o_gains : Nat) (o_value : Nat) (sz : Nat) (v_thrown : Int32) (v_textSize : Int32) (v_place : Int32) (v_jars : Int32) (v_readPlaces : Int32) (v_readJars : Int32) (v_acts : Int32) (v_tasted : Int32) (v_seed : Int64) (v_some : Int32) (v_rowMany : Int32) (v_rowWay : Int32) (v_stuffWhich : Int32) (v_stuffNear : Int32) (v_keptMany : Int32) (v_keptFirst : Int32) (v_restMany : Int32) (v_restFirst : Int32) (f_text : Nat → Int32) (f_readJar : Nat → Int32) {r0 : Int32} {n_place : Int32} {n_readPlaces : Int32} {n_readJars : Int32} {n_readJar : Nat → Int32} (hf : x8_readSale N v_textSize v_place v_readPlaces v_readJars f_text f_readJar = some (r0, n_place, n_readPlaces, n_readJars, n_readJar)) : Met l yX8_readSale wsX8_readSale rm_X8_readSale (va_Pc [.ref o] (gW (dC, dI) vwCl (gT cI cZ cG) (w_X8_readSale cI cZ cG o o_text o_kind o_size o_readJar o_page o_trial o_book o_kept o_isKept o_tastedFrom o_tastedTo o_order o_spots o_gains o_value v_thrown v_textSize v_place v_jars v_readPlaces v_readJars v_acts v_tasted v_seed v_some v_rowMany v_rowWay v_stuffWhich v_stuffNear v_keptMany v_keptFirst v_restMany v_restFirst f_text f_readJar) sz)) (va_Qi (fun r _ => r = r0) (gE (dC, dI) vwCl (gT cI cZ cG) (w_X8_readSale cI cZ cG o o_text o_kind o_size o_readJar o_page o_trial o_book o_kept o_isKept o_tastedFrom o_tastedTo o_order o_spots o_gains o_value v_thrown v_textSize n_place v_jars n_readPlaces n_readJars v_acts v_tasted v_seed v_some v_rowMany v_rowWay v_stuffWhich v_stuffNear v_keptMany v_keptFirst v_restMany v_restFirst f_text n_readJar) (va_A (w_X8_readSale cI cZ cG o o_text o_kind o_size o_readJar o_page o_trial o_book o_kept o_isKept o_tastedFrom o_tastedTo o_order o_spots o_gains o_value v_thrown v_textSize v_place v_jars v_readPlaces v_readJars v_acts v_tasted v_seed v_some v_rowMany v_rowWay v_stuffWhich v_stuffNear v_keptMany v_keptFirst v_restMany v_restFirst f_text f_readJar) sz)) (va_A (w_X8_readSale cI cZ cG o o_text o_kind o_size o_readJar o_page o_trial o_book o_kept o_isKept o_tastedFrom o_tastedTo o_order o_spots o_gains o_value v_thrown v_textSize v_place v_jars v_readPlaces v_readJars v_acts v_tasted v_seed v_some v_rowMany v_rowWay v_stuffWhich v_stuffNear v_keptMany v_keptFirst v_restMany v_restFirst f_text f_readJar) sz)) 0 0 (va_A (w_X8_readSale cI cZ cG o o_text o_kind o_size o_readJar o_page o_trial o_book o_kept o_isKept o_tastedFrom o_tastedTo o_order o_spots o_gains o_value v_thrown v_textSize v_place v_jars v_readPlaces v_readJars v_acts v_tasted v_seed v_some v_rowMany v_rowWay v_stuffWhich v_stuffNear v_keptMany v_keptFirst v_restMany v_restFirst f_text f_readJar) sz) := by
  refine Met.ofW (cc := cX8_readSale) (maxL := 1) (ret := (some .int)) (by decide) rfl ?_
  intro p e s m args below meth c s₁ B hml hv
  obtain ⟨rfl, hv⟩ := hv
  obtain ⟨hsz, hP, hK, hN, hD0⟩ := hv
  have hx := B.exec
  have hb := B.bytes
  have hr := B.returns
  have hts := atoms_spec (ws := wsX8_readSale) B.pre
  have hown : s.vm.findClass RX8 = some m.cls := findClass_of_methodNamed B.named
  have hlocks := B.notSynchronized
  have hiX8 : ∀ w ∈ u_ws RX8 TX8 33, w ∈ wsX8_readSale := fun w h => List.mem_cons_of_mem _ (List.mem_append_right _ h)
  subst hsz
  have hD := hD0.self (sz := s.heap.size)
  generalize hAe : va_A (w_X8_readSale cI cZ cG o o_text o_kind o_size o_readJar o_page o_trial o_book o_kept o_isKept o_tastedFrom o_tastedTo o_order o_spots o_gains o_value v_thrown v_textSize v_place v_jars v_readPlaces v_readJars v_acts v_tasted v_seed v_some v_rowMany v_rowWay v_stuffWhich v_stuffNear v_keptMany v_keptFirst v_restMany v_restFirst f_text f_readJar) s.heap.size = A at hD ⊢
  have hA : ∀ q : Nat, s.heap.size ≤ q → A q := fun q h => by rw [← hAe]; exact Or.inr h
  clear hD0
  have hS : va_S A s.heap s.heap [] := va_S.rf
  have hP : va_P (dC, dI) vwCl (w_X8_readSale cI cZ cG o o_text o_kind o_size o_readJar o_page o_trial o_book o_kept o_isKept o_tastedFrom o_tastedTo o_order o_spots o_gains o_value v_thrown v_textSize v_place v_jars v_readPlaces v_readJars v_acts v_tasted v_seed v_some v_rowMany v_rowWay v_stuffWhich v_stuffNear v_keptMany v_keptFirst v_restMany v_restFirst f_text f_readJar) s.heap := hP
  obtain ⟨Q, hQ⟩ : ∃ Q : State → Prop, Q = MQ below (va_Qi (fun r _ => r = r0) (gE (dC, dI) vwCl (gT cI cZ cG) (w_X8_readSale cI cZ cG o o_text o_kind o_size o_readJar o_page o_trial o_book o_kept o_isKept o_tastedFrom o_tastedTo o_order o_spots o_gains o_value v_thrown v_textSize n_place v_jars n_readPlaces n_readJars v_acts v_tasted v_seed v_some v_rowMany v_rowWay v_stuffWhich v_stuffNear v_keptMany v_keptFirst v_restMany v_restFirst f_text n_readJar) A) A) (([Value.ref o] : List Value).toArray) s 0 0 A := ⟨_, rfl⟩
  have hl := lv_entry ([.ref o]) (n := 1) (Nat.le_of_ble_eq_true rfl)
  rw [← hQ, lg_entry_eq]
  generalize (lg_sl ([.ref o]) ++ List.replicate (1 - (lg_sl ([.ref o])).length) Slot.unset).toArray = ls at hl ⊢
  have hl : lv_has ls 1 [(0, .ref o)] := hl
  generalize hH : s.heap = H at hP hS ⊢
  have hS : va_S A s.heap H [] := by rw [hH]; exact hS
  generalize hlc : ([] : List Loc) = locs at hS ⊢
  show W p l e rm_X8_readSale s m (([Value.ref o] : List Value).toArray) below meth c H locs 0 0 Q (F0 m 0 ls [])
  have L40 : ∀ (n40 : Nat), ∀ (y_place : Int32) (y_readPlaces : Int32) (y_readJars : Int32) (y_readJar : Nat → Int32) (H : Heap) (locs : List Loc) (ls : Array Slot), x8_readSale_b40 N v_textSize f_text n40 y_place y_readPlaces y_readJars y_readJar = some (r0, n_place, n_readPlaces, n_readJars, n_readJar) → lv_has ls 1 [(0, .ref o)] → va_P (dC, dI) vwCl (w_X8_readSale cI cZ cG o o_text o_kind o_size o_readJar o_page o_trial o_book o_kept o_isKept o_tastedFrom o_tastedTo o_order o_spots o_gains o_value v_thrown v_textSize y_place v_jars y_readPlaces y_readJars v_acts v_tasted v_seed v_some v_rowMany v_rowWay v_stuffWhich v_stuffNear v_keptMany v_keptFirst v_restMany v_restFirst f_text y_readJar) H → va_D A (w_X8_readSale cI cZ cG o o_text o_kind o_size o_readJar o_page o_trial o_book o_kept o_isKept o_tastedFrom o_tastedTo o_order o_spots o_gains o_value v_thrown v_textSize y_place v_jars y_readPlaces y_readJars v_acts v_tasted v_seed v_some v_rowMany v_rowWay v_stuffWhich v_stuffNear v_keptMany v_keptFirst v_restMany v_restFirst f_text y_readJar) → va_S A s.heap H locs → W p l e rm_X8_readSale s m (([Value.ref o] : List Value).toArray) below meth c H locs 0 0 Q (F0 m 40 ls []) := by
    intro n40
    induction n40 with
    | zero =>
      intro y_place y_readPlaces y_readJars y_readJar H locs ls hf hl hP hD hS
      exact g_no hf
    | succ n40 ih40 =>
      intro y_place y_readPlaces y_readJars y_readJar H locs ls hf hl hP hD hS
      unfold x8_readSale_b40 at hf
      refine lv_aload_n hx hb dX8_readSale_40 rfl (lv_at hl 0 rfl) ?_
      refine va_get (D := (dC, dI)) (ci := 8) (v := .int y_place) (C := RX8) (T := TX8) (N := 33) hx hb hts hiX8 hown hK hP 0 rfl rfl 3 (by decide) (hts (.fieldLink RX8 72 "GreenJarsModel" "place" "I") (by decide +kernel)) (fun _ h9 => h9) rfl dX8_readSale_41 ?_
      refine lv_aload_n hx hb dX8_readSale_44 rfl (lv_at hl 0 rfl) ?_
      refine va_get (D := (dC, dI)) (ci := 8) (v := .int v_textSize) (C := RX8) (T := TX8) (N := 33) hx hb hts hiX8 hown hK hP 0 rfl rfl 2 (by decide) (hts (.fieldLink RX8 69 "GreenJarsModel" "textSize" "I") (by decide +kernel)) (fun _ h9 => h9) rfl dX8_readSale_45 ?_
      refine lv_icmp_ge (tgt := 63) hx hb dX8_readSale_48 (by decide) (fun c1 => ?_) (fun c1 => ?_)
      · have hf := g_pos c1 hf
        refine lv_bipush (v := (-9 : Int32)) hx hb dX8_readSale_63 (by decide +kernel) ?_
        rw [hQ]
        cases hf
        exact W.iret hx hb hr (fun t ht hW => ⟨⟨_, (), rfl, rfl, by rw [ht]; exact hP, va_K.moved hW.alike hK, hD⟩, hS.F ht⟩) hS.2.2 dX8_readSale_65
      · have hf := g_neg c1 hf
        refine lv_aload_n hx hb dX8_readSale_51 rfl (lv_at hl 0 rfl) ?_
        obtain ⟨r2, y3, y4, y5, y6, hc7, hf⟩ := g_b5 hf
        refine g_wV (As := []) (rest := []) (wr := []) (wn := (w_X8_readSale cI cZ cG o o_text o_kind o_size o_readJar o_page o_trial o_book o_kept o_isKept o_tastedFrom o_tastedTo o_order o_spots o_gains o_value v_thrown v_textSize y3 v_jars y4 y5 v_acts v_tasted v_seed v_some v_rowMany v_rowWay v_stuffWhich v_stuffNear v_keptMany v_keptFirst v_restMany v_restFirst f_text y6)) ⟨hx, hb, hml, hown, hts⟩ (c_X8_readOneJar l dC dI cI cZ cG o o_text o_kind o_size o_readJar o_page o_trial o_book o_kept o_isKept o_tastedFrom o_tastedTo o_order o_spots o_gains o_value H.size  v_thrown v_textSize y_place v_jars y_readPlaces y_readJars v_acts v_tasted v_seed v_some v_rowMany v_rowWay v_stuffWhich v_stuffNear v_keptMany v_keptFirst v_restMany v_restFirst f_text y_readJar hc7) (cwV 0 hts gX8_readSale_X8_readOneJar rfl rfl rfl (by decide +kernel) ⟨Nat.le_of_ble_eq_true rfl, Nat.le_of_ble_eq_true rfl⟩) hK hN hP hD hS hA [0, 1, 2] [] [0, 1, 2] rfl rfl (by decide) rfl (by decide) (by decide) rfl (by decide) (va_recv hK hP (ci := 8) (q0 := 0) rfl rfl) rfl hl.1 rfl (Nat.le_of_ble_eq_true rfl) dX8_readSale_52 ⟨Nat.zero_le _, Nat.zero_le _⟩ (fun H locs hP hD hS => ?_)
        refine lv_if_ne (tgt := 40) hx hb dX8_readSale_55 (by decide) (fun c8 => ?_) (fun c8 => ?_)
        · have hf := g_neg c8 hf
          exact ih40 y3 y4 y5 y6 H locs ls hf (lv_sub hl [0] rfl) hP hD hS
        · have hf := g_pos c8 hf
          refine lv_aload_n hx hb dX8_readSale_58 rfl (lv_at hl 0 rfl) ?_
          refine va_get (D := (dC, dI)) (ci := 8) (v := .int y3) (C := RX8) (T := TX8) (N := 33) hx hb hts hiX8 hown hK hP 0 rfl rfl 3 (by decide) (hts (.fieldLink RX8 72 "GreenJarsModel" "place" "I") (by decide +kernel)) (fun _ h9 => h9) rfl dX8_readSale_59 ?_
          rw [hQ]
          cases hf
          exact W.iret hx hb hr (fun t ht hW => ⟨⟨_, (), rfl, rfl, by rw [ht]; exact hP, va_K.moved hW.alike hK, hD⟩, hS.F ht⟩) hS.2.2 dX8_readSale_62
  unfold x8_readSale at hf
  refine lv_aload_n hx hb dX8_readSale_0 rfl (lv_at hl 0 rfl) ?_
  refine lv_iconst (v := (0 : Int32)) hx hb dX8_readSale_1 (by decide) ?_
  refine va_put (D := (dC, dI)) (ci := 8) (v := .int (0 : Int32)) (ty := .int) (C := RX8) (T := TX8) (N := 33) hx hb hts hiX8 tyX8 tyX8_ok nmX8 hown hK hP hD hS 0 rfl rfl 3 (by decide) (hts (.fieldLink RX8 72 "GreenJarsModel" "place" "I") (by decide +kernel)) (fun _ h9 => h9) rfl (by decide +kernel) rfl rfl (Nat.le_of_ble_eq_true rfl) dX8_readSale_2 (fun H locs hP hD hS => ?_)
  have hP : va_P (dC, dI) vwCl (w_X8_readSale cI cZ cG o o_text o_kind o_size o_readJar o_page o_trial o_book o_kept o_isKept o_tastedFrom o_tastedTo o_order o_spots o_gains o_value v_thrown v_textSize (0 : Int32) v_jars v_readPlaces v_readJars v_acts v_tasted v_seed v_some v_rowMany v_rowWay v_stuffWhich v_stuffNear v_keptMany v_keptFirst v_restMany v_restFirst f_text f_readJar) H := hP
  have hD : va_D A (w_X8_readSale cI cZ cG o o_text o_kind o_size o_readJar o_page o_trial o_book o_kept o_isKept o_tastedFrom o_tastedTo o_order o_spots o_gains o_value v_thrown v_textSize (0 : Int32) v_jars v_readPlaces v_readJars v_acts v_tasted v_seed v_some v_rowMany v_rowWay v_stuffWhich v_stuffNear v_keptMany v_keptFirst v_restMany v_restFirst f_text f_readJar) := hD
  refine lv_aload_n hx hb dX8_readSale_5 rfl (lv_at hl 0 rfl) ?_
  refine lv_iconst (v := (0 : Int32)) hx hb dX8_readSale_6 (by decide) ?_
  refine va_put (D := (dC, dI)) (ci := 8) (v := .int (0 : Int32)) (ty := .int) (C := RX8) (T := TX8) (N := 33) hx hb hts hiX8 tyX8 tyX8_ok nmX8 hown hK hP hD hS 0 rfl rfl 7 (by decide) (hts (.fieldLink RX8 80 "GreenJarsModel" "readPlaces" "I") (by decide +kernel)) (fun _ h9 => h9) rfl (by decide +kernel) rfl rfl (Nat.le_of_ble_eq_true rfl) dX8_readSale_7 (fun H locs hP hD hS => ?_)
  have hP : va_P (dC, dI) vwCl (w_X8_readSale cI cZ cG o o_text o_kind o_size o_readJar o_page o_trial o_book o_kept o_isKept o_tastedFrom o_tastedTo o_order o_spots o_gains o_value v_thrown v_textSize (0 : Int32) v_jars (0 : Int32) v_readJars v_acts v_tasted v_seed v_some v_rowMany v_rowWay v_stuffWhich v_stuffNear v_keptMany v_keptFirst v_restMany v_restFirst f_text f_readJar) H := hP
  have hD : va_D A (w_X8_readSale cI cZ cG o o_text o_kind o_size o_readJar o_page o_trial o_book o_kept o_isKept o_tastedFrom o_tastedTo o_order o_spots o_gains o_value v_thrown v_textSize (0 : Int32) v_jars (0 : Int32) v_readJars v_acts v_tasted v_seed v_some v_rowMany v_rowWay v_stuffWhich v_stuffNear v_keptMany v_keptFirst v_restMany v_restFirst f_text f_readJar) := hD
  refine lv_aload_n hx hb dX8_readSale_10 rfl (lv_at hl 0 rfl) ?_
  refine lv_iconst (v := (0 : Int32)) hx hb dX8_readSale_11 (by decide) ?_
  refine va_put (D := (dC, dI)) (ci := 8) (v := .int (0 : Int32)) (ty := .int) (C := RX8) (T := TX8) (N := 33) hx hb hts hiX8 tyX8 tyX8_ok nmX8 hown hK hP hD hS 0 rfl rfl 8 (by decide) (hts (.fieldLink RX8 75 "GreenJarsModel" "readJars" "I") (by decide +kernel)) (fun _ h9 => h9) rfl (by decide +kernel) rfl rfl (Nat.le_of_ble_eq_true rfl) dX8_readSale_12 (fun H locs hP hD hS => ?_)
  have hP : va_P (dC, dI) vwCl (w_X8_readSale cI cZ cG o o_text o_kind o_size o_readJar o_page o_trial o_book o_kept o_isKept o_tastedFrom o_tastedTo o_order o_spots o_gains o_value v_thrown v_textSize (0 : Int32) v_jars (0 : Int32) (0 : Int32) v_acts v_tasted v_seed v_some v_rowMany v_rowWay v_stuffWhich v_stuffNear v_keptMany v_keptFirst v_restMany v_restFirst f_text f_readJar) H := hP
  have hD : va_D A (w_X8_readSale cI cZ cG o o_text o_kind o_size o_readJar o_page o_trial o_book o_kept o_isKept o_tastedFrom o_tastedTo o_order o_spots o_gains o_value v_thrown v_textSize (0 : Int32) v_jars (0 : Int32) (0 : Int32) v_acts v_tasted v_seed v_some v_rowMany v_rowWay v_stuffWhich v_stuffNear v_keptMany v_keptFirst v_restMany v_restFirst f_text f_readJar) := hD
  refine lv_aload_n hx hb dX8_readSale_15 rfl (lv_at hl 0 rfl) ?_
  refine va_get (D := (dC, dI)) (ci := 8) (v := .int v_textSize) (C := RX8) (T := TX8) (N := 33) hx hb hts hiX8 hown hK hP 0 rfl rfl 2 (by decide) (hts (.fieldLink RX8 69 "GreenJarsModel" "textSize" "I") (by decide +kernel)) (fun _ h9 => h9) rfl dX8_readSale_16 ?_
  refine lv_if_eq (tgt := 33) hx hb dX8_readSale_19 (by decide) (fun c9 => ?_) (fun c9 => ?_)
  · have hf := g_pos c9 hf
    refine lv_iconst (v := (0 : Int32)) hx hb dX8_readSale_33 (by decide) ?_
    rw [hQ]
    cases hf
    exact W.iret hx hb hr (fun t ht hW => ⟨⟨_, (), rfl, rfl, by rw [ht]; exact hP, va_K.moved hW.alike hK, hD⟩, hS.F ht⟩) hS.2.2 dX8_readSale_34
  · have hf := g_neg c9 hf
    refine lv_aload_n hx hb dX8_readSale_22 rfl (lv_at hl 0 rfl) ?_
    refine va_get (D := (dC, dI)) (ci := 8) (v := .ref o_text) (C := RX8) (T := TX8) (N := 33) hx hb hts hiX8 hown hK hP 0 rfl rfl 1 (by decide) (hts (.fieldLink RX8 7 "GreenJarsModel" "text" "[I") (by decide +kernel)) (fun _ h9 => h9) rfl dX8_readSale_23 ?_
    refine lv_iconst (v := (0 : Int32)) hx hb dX8_readSale_26 (by decide) ?_
    obtain ⟨h10, hf⟩ := g_chk hf
    refine va_iald hx hb hK hP 1 0 rfl rfl (gIn_vp h10) dX8_readSale_27 ?_
    refine lv_bipush (v := (83 : Int32)) hx hb dX8_readSale_28 (by decide +kernel) ?_
    refine lv_icmp_eq (tgt := 35) hx hb dX8_readSale_30 (by decide) (fun c11 => ?_) (fun c11 => ?_)
    · have hf := g_pos c11 hf
      refine lv_aload_n hx hb dX8_readSale_35 rfl (lv_at hl 0 rfl) ?_
      refine lv_iconst (v := (1 : Int32)) hx hb dX8_readSale_36 (by decide) ?_
      refine va_put (D := (dC, dI)) (ci := 8) (v := .int (1 : Int32)) (ty := .int) (C := RX8) (T := TX8) (N := 33) hx hb hts hiX8 tyX8 tyX8_ok nmX8 hown hK hP hD hS 0 rfl rfl 3 (by decide) (hts (.fieldLink RX8 72 "GreenJarsModel" "place" "I") (by decide +kernel)) (fun _ h9 => h9) rfl (by decide +kernel) rfl rfl (Nat.le_of_ble_eq_true rfl) dX8_readSale_37 (fun H locs hP hD hS => ?_)
      have hP : va_P (dC, dI) vwCl (w_X8_readSale cI cZ cG o o_text o_kind o_size o_readJar o_page o_trial o_book o_kept o_isKept o_tastedFrom o_tastedTo o_order o_spots o_gains o_value v_thrown v_textSize (1 : Int32) v_jars (0 : Int32) (0 : Int32) v_acts v_tasted v_seed v_some v_rowMany v_rowWay v_stuffWhich v_stuffNear v_keptMany v_keptFirst v_restMany v_restFirst f_text f_readJar) H := hP
      have hD : va_D A (w_X8_readSale cI cZ cG o o_text o_kind o_size o_readJar o_page o_trial o_book o_kept o_isKept o_tastedFrom o_tastedTo o_order o_spots o_gains o_value v_thrown v_textSize (1 : Int32) v_jars (0 : Int32) (0 : Int32) v_acts v_tasted v_seed v_some v_rowMany v_rowWay v_stuffWhich v_stuffNear v_keptMany v_keptFirst v_restMany v_restFirst f_text f_readJar) := hD
      exact L40 N (1 : Int32) (0 : Int32) (0 : Int32) f_readJar H locs ls hf (lv_sub hl [0] rfl) hP hD hS
    · have hf := g_neg c11 hf
      refine lv_iconst (v := (0 : Int32)) hx hb dX8_readSale_33 (by decide) ?_
      rw [hQ]
      cases hf
      exact W.iret hx hb hr (fun t ht hW => ⟨⟨_, (), rfl, rfl, by rw [ht]; exact hP, va_K.moved hW.alike hK, hD⟩, hS.F ht⟩) hS.2.2 dX8_readSale_34
abbrev rm_X8_fault : Room := { frames := 4, cells := 0, slots := 0, locals := 92 }
abbrev w_X8_fault (cI cZ cG : ClassId) (o : Nat) (o_text : Nat) (o_kind : Nat) (o_size : Nat) (o_readJar : Nat) (o_page : Nat) (o_trial : Nat) (o_book : Nat) (o_kept : Nat) (o_isKept : Nat) (o_tastedFrom : Nat) (o_tastedTo : Nat) (o_order : Nat) (o_spots : Nat) (o_gains : Nat) (o_value : Nat) (v_thrown : Int32) (v_textSize : Int32) (v_place : Int32) (v_jars : Int32) (v_readPlaces : Int32) (v_readJars : Int32) (v_acts : Int32) (v_tasted : Int32) (v_seed : Int64) (v_some : Int32) (v_rowMany : Int32) (v_rowWay : Int32) (v_stuffWhich : Int32) (v_stuffNear : Int32) (v_keptMany : Int32) (v_keptFirst : Int32) (v_restMany : Int32) (v_restFirst : Int32) (f_text : Nat → Int32) (f_readJar : Nat → Int32) : va_W := [(o, .inr (8, [.int v_thrown, .ref o_text, .int v_textSize, .int v_place, .int v_jars, .ref o_kind, .ref o_size, .int v_readPlaces, .int v_readJars, .ref o_readJar, .ref o_page, .ref o_trial, .ref o_book, .int v_acts, .ref o_kept, .ref o_isKept, .int v_tasted, .ref o_tastedFrom, .ref o_tastedTo, .long v_seed, .int v_some, .ref o_order, .ref o_spots, .int v_rowMany, .int v_rowWay, .int v_stuffWhich, .int v_stuffNear, .int v_keptMany, .int v_keptFirst, .int v_restMany, .int v_restFirst, .ref o_gains, .ref o_value])), (o_text, .inl (cI, 48, .inl f_text)), (o_readJar, .inl (cI, 30, .inl f_readJar))]
set_option maxHeartbeats 4000000 in
set_option maxRecDepth 100000 in
theorem c_X8_fault (l : Launch) (dC : Nat → ClassId) (dI : Nat → Nat → Nat) (cI cZ cG : ClassId) {N : Nat} (o : Nat) (o_text : Nat) (o_kind : Nat) (o_size : Nat) (o_readJar : Nat) (o_page : Nat) (o_trial : Nat) (o_book : Nat) (o_kept : Nat) (o_isKept : Nat) (o_tastedFrom : Nat) (o_tastedTo : Nat) (o_order : Nat) (o_spots : Nat) (o_gains : Nat) (o_value : Nat) (sz : Nat) (v_thrown : Int32) (v_textSize : Int32) (v_place : Int32) (v_jars : Int32) (v_readPlaces : Int32) (v_readJars : Int32) (v_acts : Int32) (v_tasted : Int32) (v_seed : Int64) (v_some : Int32) (v_rowMany : Int32) (v_rowWay : Int32) (v_stuffWhich : Int32) (v_stuffNear : Int32) (v_keptMany : Int32) (v_keptFirst : Int32) (v_restMany : Int32) (v_restFirst : Int32) (f_text : Nat → Int32) (f_readJar : Nat → Int32) {r0 : Int32} {n_thrown : Int32} {n_place : Int32} {n_readPlaces : Int32} {n_readJars : Int32} {n_readJar : Nat → Int32} (hf : x8_fault N v_thrown v_textSize v_place v_readPlaces v_readJars f_text f_readJar = some (r0, n_thrown, n_place, n_readPlaces, n_readJars, n_readJar)) : Met l yX8_fault wsX8_fault rm_X8_fault (va_Pc [.ref o] (gW (dC, dI) vwCl (gT cI cZ cG) (w_X8_fault cI cZ cG o o_text o_kind o_size o_readJar o_page o_trial o_book o_kept o_isKept o_tastedFrom o_tastedTo o_order o_spots o_gains o_value v_thrown v_textSize v_place v_jars v_readPlaces v_readJars v_acts v_tasted v_seed v_some v_rowMany v_rowWay v_stuffWhich v_stuffNear v_keptMany v_keptFirst v_restMany v_restFirst f_text f_readJar) sz)) (va_Qi (fun r _ => r = r0) (gE (dC, dI) vwCl (gT cI cZ cG) (w_X8_fault cI cZ cG o o_text o_kind o_size o_readJar o_page o_trial o_book o_kept o_isKept o_tastedFrom o_tastedTo o_order o_spots o_gains o_value n_thrown v_textSize n_place v_jars n_readPlaces n_readJars v_acts v_tasted v_seed v_some v_rowMany v_rowWay v_stuffWhich v_stuffNear v_keptMany v_keptFirst v_restMany v_restFirst f_text n_readJar) (va_A (w_X8_fault cI cZ cG o o_text o_kind o_size o_readJar o_page o_trial o_book o_kept o_isKept o_tastedFrom o_tastedTo o_order o_spots o_gains o_value v_thrown v_textSize v_place v_jars v_readPlaces v_readJars v_acts v_tasted v_seed v_some v_rowMany v_rowWay v_stuffWhich v_stuffNear v_keptMany v_keptFirst v_restMany v_restFirst f_text f_readJar) sz)) (va_A (w_X8_fault cI cZ cG o o_text o_kind o_size o_readJar o_page o_trial o_book o_kept o_isKept o_tastedFrom o_tastedTo o_order o_spots o_gains o_value v_thrown v_textSize v_place v_jars v_readPlaces v_readJars v_acts v_tasted v_seed v_some v_rowMany v_rowWay v_stuffWhich v_stuffNear v_keptMany v_keptFirst v_restMany v_restFirst f_text f_readJar) sz)) 0 0 (va_A (w_X8_fault cI cZ cG o o_text o_kind o_size o_readJar o_page o_trial o_book o_kept o_isKept o_tastedFrom o_tastedTo o_order o_spots o_gains o_value v_thrown v_textSize v_place v_jars v_readPlaces v_readJars v_acts v_tasted v_seed v_some v_rowMany v_rowWay v_stuffWhich v_stuffNear v_keptMany v_keptFirst v_restMany v_restFirst f_text f_readJar) sz) := by
  refine Met.ofW (cc := cX8_fault) (maxL := 1) (ret := (some .int)) (by decide) rfl ?_
  intro p e s m args below meth c s₁ B hml hv
  obtain ⟨rfl, hv⟩ := hv
  obtain ⟨hsz, hP, hK, hN, hD0⟩ := hv
  have hx := B.exec
  have hb := B.bytes
  have hr := B.returns
  have hts := atoms_spec (ws := wsX8_fault) B.pre
  have hown : s.vm.findClass RX8 = some m.cls := findClass_of_methodNamed B.named
  have hlocks := B.notSynchronized
  have hiX8 : ∀ w ∈ u_ws RX8 TX8 33, w ∈ wsX8_fault := fun w h => List.mem_cons_of_mem _ (List.mem_append_right _ h)
  subst hsz
  have hD := hD0.self (sz := s.heap.size)
  generalize hAe : va_A (w_X8_fault cI cZ cG o o_text o_kind o_size o_readJar o_page o_trial o_book o_kept o_isKept o_tastedFrom o_tastedTo o_order o_spots o_gains o_value v_thrown v_textSize v_place v_jars v_readPlaces v_readJars v_acts v_tasted v_seed v_some v_rowMany v_rowWay v_stuffWhich v_stuffNear v_keptMany v_keptFirst v_restMany v_restFirst f_text f_readJar) s.heap.size = A at hD ⊢
  have hA : ∀ q : Nat, s.heap.size ≤ q → A q := fun q h => by rw [← hAe]; exact Or.inr h
  clear hD0
  have hS : va_S A s.heap s.heap [] := va_S.rf
  have hP : va_P (dC, dI) vwCl (w_X8_fault cI cZ cG o o_text o_kind o_size o_readJar o_page o_trial o_book o_kept o_isKept o_tastedFrom o_tastedTo o_order o_spots o_gains o_value v_thrown v_textSize v_place v_jars v_readPlaces v_readJars v_acts v_tasted v_seed v_some v_rowMany v_rowWay v_stuffWhich v_stuffNear v_keptMany v_keptFirst v_restMany v_restFirst f_text f_readJar) s.heap := hP
  obtain ⟨Q, hQ⟩ : ∃ Q : State → Prop, Q = MQ below (va_Qi (fun r _ => r = r0) (gE (dC, dI) vwCl (gT cI cZ cG) (w_X8_fault cI cZ cG o o_text o_kind o_size o_readJar o_page o_trial o_book o_kept o_isKept o_tastedFrom o_tastedTo o_order o_spots o_gains o_value n_thrown v_textSize n_place v_jars n_readPlaces n_readJars v_acts v_tasted v_seed v_some v_rowMany v_rowWay v_stuffWhich v_stuffNear v_keptMany v_keptFirst v_restMany v_restFirst f_text n_readJar) A) A) (([Value.ref o] : List Value).toArray) s 0 0 A := ⟨_, rfl⟩
  have hl := lv_entry ([.ref o]) (n := 1) (Nat.le_of_ble_eq_true rfl)
  rw [← hQ, lg_entry_eq]
  generalize (lg_sl ([.ref o]) ++ List.replicate (1 - (lg_sl ([.ref o])).length) Slot.unset).toArray = ls at hl ⊢
  have hl : lv_has ls 1 [(0, .ref o)] := hl
  generalize hH : s.heap = H at hP hS ⊢
  have hS : va_S A s.heap H [] := by rw [hH]; exact hS
  generalize hlc : ([] : List Loc) = locs at hS ⊢
  show W p l e rm_X8_fault s m (([Value.ref o] : List Value).toArray) below meth c H locs 0 0 Q (F0 m 0 ls [])
  unfold x8_fault at hf
  refine lv_aload_n hx hb dX8_fault_0 rfl (lv_at hl 0 rfl) ?_
  refine lv_iconst (v := (0 : Int32)) hx hb dX8_fault_1 (by decide) ?_
  refine va_put (D := (dC, dI)) (ci := 8) (v := .int (0 : Int32)) (ty := .int) (C := RX8) (T := TX8) (N := 33) hx hb hts hiX8 tyX8 tyX8_ok nmX8 hown hK hP hD hS 0 rfl rfl 0 (by decide) (hts (.fieldLink RX8 56 "GreenJarsModel" "thrown" "I") (by decide +kernel)) (fun _ h9 => h9) rfl (by decide +kernel) rfl rfl (Nat.le_of_ble_eq_true rfl) dX8_fault_2 (fun H locs hP hD hS => ?_)
  have hP : va_P (dC, dI) vwCl (w_X8_fault cI cZ cG o o_text o_kind o_size o_readJar o_page o_trial o_book o_kept o_isKept o_tastedFrom o_tastedTo o_order o_spots o_gains o_value (0 : Int32) v_textSize v_place v_jars v_readPlaces v_readJars v_acts v_tasted v_seed v_some v_rowMany v_rowWay v_stuffWhich v_stuffNear v_keptMany v_keptFirst v_restMany v_restFirst f_text f_readJar) H := hP
  have hD : va_D A (w_X8_fault cI cZ cG o o_text o_kind o_size o_readJar o_page o_trial o_book o_kept o_isKept o_tastedFrom o_tastedTo o_order o_spots o_gains o_value (0 : Int32) v_textSize v_place v_jars v_readPlaces v_readJars v_acts v_tasted v_seed v_some v_rowMany v_rowWay v_stuffWhich v_stuffNear v_keptMany v_keptFirst v_restMany v_restFirst f_text f_readJar) := hD
  refine lv_aload_n hx hb dX8_fault_5 rfl (lv_at hl 0 rfl) ?_
  obtain ⟨r1, y2, y3, y4, y5, hc6, hf⟩ := g_b5 hf
  refine g_wV (As := []) (rest := []) (wr := []) (wn := (w_X8_fault cI cZ cG o o_text o_kind o_size o_readJar o_page o_trial o_book o_kept o_isKept o_tastedFrom o_tastedTo o_order o_spots o_gains o_value (0 : Int32) v_textSize y2 v_jars y3 y4 v_acts v_tasted v_seed v_some v_rowMany v_rowWay v_stuffWhich v_stuffNear v_keptMany v_keptFirst v_restMany v_restFirst f_text y5)) ⟨hx, hb, hml, hown, hts⟩ (c_X8_readSale l dC dI cI cZ cG o o_text o_kind o_size o_readJar o_page o_trial o_book o_kept o_isKept o_tastedFrom o_tastedTo o_order o_spots o_gains o_value H.size  (0 : Int32) v_textSize v_place v_jars v_readPlaces v_readJars v_acts v_tasted v_seed v_some v_rowMany v_rowWay v_stuffWhich v_stuffNear v_keptMany v_keptFirst v_restMany v_restFirst f_text f_readJar hc6) (cwV 0 hts gX8_fault_X8_readSale rfl rfl rfl (by decide +kernel) ⟨Nat.le_of_ble_eq_true rfl, Nat.le_of_ble_eq_true rfl⟩) hK hN hP hD hS hA [0, 1, 2] [] [0, 1, 2] rfl rfl (by decide) rfl (by decide) (by decide) rfl (by decide) (va_recv hK hP (ci := 8) (q0 := 0) rfl rfl) rfl hl.1 rfl (Nat.le_of_ble_eq_true rfl) dX8_fault_6 ⟨Nat.zero_le _, Nat.zero_le _⟩ (fun H locs hP hD hS => ?_)
  rw [hQ]
  cases hf
  exact W.iret hx hb hr (fun t ht hW => ⟨⟨_, (), rfl, rfl, by rw [ht]; exact hP, va_K.moved hW.alike hK, hD⟩, hS.F ht⟩) hS.2.2 dX8_fault_9
abbrev rm_X8_sale : Room := { frames := 4, cells := 0, slots := 0, locals := 92 }
abbrev w_X8_sale (cI cZ cG : ClassId) (o : Nat) (o_text : Nat) (o_kind : Nat) (o_size : Nat) (o_readJar : Nat) (o_page : Nat) (o_trial : Nat) (o_book : Nat) (o_kept : Nat) (o_isKept : Nat) (o_tastedFrom : Nat) (o_tastedTo : Nat) (o_order : Nat) (o_spots : Nat) (o_gains : Nat) (o_value : Nat) (v_thrown : Int32) (v_textSize : Int32) (v_place : Int32) (v_jars : Int32) (v_readPlaces : Int32) (v_readJars : Int32) (v_acts : Int32) (v_tasted : Int32) (v_seed : Int64) (v_some : Int32) (v_rowMany : Int32) (v_rowWay : Int32) (v_stuffWhich : Int32) (v_stuffNear : Int32) (v_keptMany : Int32) (v_keptFirst : Int32) (v_restMany : Int32) (v_restFirst : Int32) (f_text : Nat → Int32) (f_kind : Nat → Int32) (f_size : Nat → Int32) (f_readJar : Nat → Int32) (f_page : Nat → Int32) (f_isKept : Nat → Int32) : va_W := [(o, .inr (8, [.int v_thrown, .ref o_text, .int v_textSize, .int v_place, .int v_jars, .ref o_kind, .ref o_size, .int v_readPlaces, .int v_readJars, .ref o_readJar, .ref o_page, .ref o_trial, .ref o_book, .int v_acts, .ref o_kept, .ref o_isKept, .int v_tasted, .ref o_tastedFrom, .ref o_tastedTo, .long v_seed, .int v_some, .ref o_order, .ref o_spots, .int v_rowMany, .int v_rowWay, .int v_stuffWhich, .int v_stuffNear, .int v_keptMany, .int v_keptFirst, .int v_restMany, .int v_restFirst, .ref o_gains, .ref o_value])), (o_text, .inl (cI, 48, .inl f_text)), (o_kind, .inl (cI, 6, .inl f_kind)), (o_size, .inl (cI, 6, .inl f_size)), (o_readJar, .inl (cI, 30, .inl f_readJar)), (o_page, .inl (cI, 37, .inl f_page)), (o_isKept, .inl (cZ, 2, .inl f_isKept))]
set_option maxHeartbeats 4000000 in
set_option maxRecDepth 100000 in
theorem c_X8_sale (l : Launch) (dC : Nat → ClassId) (dI : Nat → Nat → Nat) (cI cZ cG : ClassId) {N : Nat} (o : Nat) (o_text : Nat) (o_kind : Nat) (o_size : Nat) (o_readJar : Nat) (o_page : Nat) (o_trial : Nat) (o_book : Nat) (o_kept : Nat) (o_isKept : Nat) (o_tastedFrom : Nat) (o_tastedTo : Nat) (o_order : Nat) (o_spots : Nat) (o_gains : Nat) (o_value : Nat) (sz : Nat) (v_thrown : Int32) (v_textSize : Int32) (v_place : Int32) (v_jars : Int32) (v_readPlaces : Int32) (v_readJars : Int32) (v_acts : Int32) (v_tasted : Int32) (v_seed : Int64) (v_some : Int32) (v_rowMany : Int32) (v_rowWay : Int32) (v_stuffWhich : Int32) (v_stuffNear : Int32) (v_keptMany : Int32) (v_keptFirst : Int32) (v_restMany : Int32) (v_restFirst : Int32) (f_text : Nat → Int32) (f_kind : Nat → Int32) (f_size : Nat → Int32) (f_readJar : Nat → Int32) (f_page : Nat → Int32) (f_isKept : Nat → Int32) {r0 : Int32} {n_thrown : Int32} {n_place : Int32} {n_jars : Int32} {n_readPlaces : Int32} {n_readJars : Int32} {n_acts : Int32} {n_kind : Nat → Int32} {n_size : Nat → Int32} {n_readJar : Nat → Int32} {n_page : Nat → Int32} {n_isKept : Nat → Int32} (hf : x8_sale N v_thrown v_textSize v_place v_jars v_readPlaces v_readJars v_acts f_text f_kind f_size f_readJar f_page f_isKept = some (r0, n_thrown, n_place, n_jars, n_readPlaces, n_readJars, n_acts, n_kind, n_size, n_readJar, n_page, n_isKept)) : Met l yX8_sale wsX8_sale rm_X8_sale (va_Pc [.ref o] (gW (dC, dI) vwCl (gT cI cZ cG) (w_X8_sale cI cZ cG o o_text o_kind o_size o_readJar o_page o_trial o_book o_kept o_isKept o_tastedFrom o_tastedTo o_order o_spots o_gains o_value v_thrown v_textSize v_place v_jars v_readPlaces v_readJars v_acts v_tasted v_seed v_some v_rowMany v_rowWay v_stuffWhich v_stuffNear v_keptMany v_keptFirst v_restMany v_restFirst f_text f_kind f_size f_readJar f_page f_isKept) sz)) (va_Qi (fun r _ => r = r0) (gE (dC, dI) vwCl (gT cI cZ cG) (w_X8_sale cI cZ cG o o_text o_kind o_size o_readJar o_page o_trial o_book o_kept o_isKept o_tastedFrom o_tastedTo o_order o_spots o_gains o_value n_thrown v_textSize n_place n_jars n_readPlaces n_readJars n_acts v_tasted v_seed v_some v_rowMany v_rowWay v_stuffWhich v_stuffNear v_keptMany v_keptFirst v_restMany v_restFirst f_text n_kind n_size n_readJar n_page n_isKept) (va_A (w_X8_sale cI cZ cG o o_text o_kind o_size o_readJar o_page o_trial o_book o_kept o_isKept o_tastedFrom o_tastedTo o_order o_spots o_gains o_value v_thrown v_textSize v_place v_jars v_readPlaces v_readJars v_acts v_tasted v_seed v_some v_rowMany v_rowWay v_stuffWhich v_stuffNear v_keptMany v_keptFirst v_restMany v_restFirst f_text f_kind f_size f_readJar f_page f_isKept) sz)) (va_A (w_X8_sale cI cZ cG o o_text o_kind o_size o_readJar o_page o_trial o_book o_kept o_isKept o_tastedFrom o_tastedTo o_order o_spots o_gains o_value v_thrown v_textSize v_place v_jars v_readPlaces v_readJars v_acts v_tasted v_seed v_some v_rowMany v_rowWay v_stuffWhich v_stuffNear v_keptMany v_keptFirst v_restMany v_restFirst f_text f_kind f_size f_readJar f_page f_isKept) sz)) 0 0 (va_A (w_X8_sale cI cZ cG o o_text o_kind o_size o_readJar o_page o_trial o_book o_kept o_isKept o_tastedFrom o_tastedTo o_order o_spots o_gains o_value v_thrown v_textSize v_place v_jars v_readPlaces v_readJars v_acts v_tasted v_seed v_some v_rowMany v_rowWay v_stuffWhich v_stuffNear v_keptMany v_keptFirst v_restMany v_restFirst f_text f_kind f_size f_readJar f_page f_isKept) sz) := by
  refine Met.ofW (cc := cX8_sale) (maxL := 2) (ret := (some .int)) (by decide) rfl ?_
  intro p e s m args below meth c s₁ B hml hv
  obtain ⟨rfl, hv⟩ := hv
  obtain ⟨hsz, hP, hK, hN, hD0⟩ := hv
  have hx := B.exec
  have hb := B.bytes
  have hr := B.returns
  have hts := atoms_spec (ws := wsX8_sale) B.pre
  have hown : s.vm.findClass RX8 = some m.cls := findClass_of_methodNamed B.named
  have hlocks := B.notSynchronized
  have hiX8 : ∀ w ∈ u_ws RX8 TX8 33, w ∈ wsX8_sale := fun w h => List.mem_cons_of_mem _ (List.mem_append_right _ h)
  subst hsz
  have hD := hD0.self (sz := s.heap.size)
  generalize hAe : va_A (w_X8_sale cI cZ cG o o_text o_kind o_size o_readJar o_page o_trial o_book o_kept o_isKept o_tastedFrom o_tastedTo o_order o_spots o_gains o_value v_thrown v_textSize v_place v_jars v_readPlaces v_readJars v_acts v_tasted v_seed v_some v_rowMany v_rowWay v_stuffWhich v_stuffNear v_keptMany v_keptFirst v_restMany v_restFirst f_text f_kind f_size f_readJar f_page f_isKept) s.heap.size = A at hD ⊢
  have hA : ∀ q : Nat, s.heap.size ≤ q → A q := fun q h => by rw [← hAe]; exact Or.inr h
  clear hD0
  have hS : va_S A s.heap s.heap [] := va_S.rf
  have hP : va_P (dC, dI) vwCl (w_X8_sale cI cZ cG o o_text o_kind o_size o_readJar o_page o_trial o_book o_kept o_isKept o_tastedFrom o_tastedTo o_order o_spots o_gains o_value v_thrown v_textSize v_place v_jars v_readPlaces v_readJars v_acts v_tasted v_seed v_some v_rowMany v_rowWay v_stuffWhich v_stuffNear v_keptMany v_keptFirst v_restMany v_restFirst f_text f_kind f_size f_readJar f_page f_isKept) s.heap := hP
  obtain ⟨Q, hQ⟩ : ∃ Q : State → Prop, Q = MQ below (va_Qi (fun r _ => r = r0) (gE (dC, dI) vwCl (gT cI cZ cG) (w_X8_sale cI cZ cG o o_text o_kind o_size o_readJar o_page o_trial o_book o_kept o_isKept o_tastedFrom o_tastedTo o_order o_spots o_gains o_value n_thrown v_textSize n_place n_jars n_readPlaces n_readJars n_acts v_tasted v_seed v_some v_rowMany v_rowWay v_stuffWhich v_stuffNear v_keptMany v_keptFirst v_restMany v_restFirst f_text n_kind n_size n_readJar n_page n_isKept) A) A) (([Value.ref o] : List Value).toArray) s 0 0 A := ⟨_, rfl⟩
  have hl := lv_entry ([.ref o]) (n := 2) (Nat.le_of_ble_eq_true rfl)
  rw [← hQ, lg_entry_eq]
  generalize (lg_sl ([.ref o]) ++ List.replicate (2 - (lg_sl ([.ref o])).length) Slot.unset).toArray = ls at hl ⊢
  have hl : lv_has ls 2 [(0, .ref o)] := hl
  generalize hH : s.heap = H at hP hS ⊢
  have hS : va_S A s.heap H [] := by rw [hH]; exact hS
  generalize hlc : ([] : List Loc) = locs at hS ⊢
  show W p l e rm_X8_sale s m (([Value.ref o] : List Value).toArray) below meth c H locs 0 0 Q (F0 m 0 ls [])
  have L48 : ∀ (n48 : Nat), ∀ (x1 : Int32) (y_thrown : Int32) (y_place : Int32) (y_jars : Int32) (y_readPlaces : Int32) (y_readJars : Int32) (y_acts : Int32) (y_kind : Nat → Int32) (y_size : Nat → Int32) (y_readJar : Nat → Int32) (y_page : Nat → Int32) (y_isKept : Nat → Int32) (H : Heap) (locs : List Loc) (ls : Array Slot), x8_sale_b48 N v_textSize f_text n48 x1 y_thrown y_place y_jars y_readPlaces y_readJars y_acts y_kind y_size y_readJar y_page y_isKept = some (r0, n_thrown, n_place, n_jars, n_readPlaces, n_readJars, n_acts, n_kind, n_size, n_readJar, n_page, n_isKept) → lv_has ls 2 [(0, .ref o), (1, .int x1)] → va_P (dC, dI) vwCl (w_X8_sale cI cZ cG o o_text o_kind o_size o_readJar o_page o_trial o_book o_kept o_isKept o_tastedFrom o_tastedTo o_order o_spots o_gains o_value y_thrown v_textSize y_place y_jars y_readPlaces y_readJars y_acts v_tasted v_seed v_some v_rowMany v_rowWay v_stuffWhich v_stuffNear v_keptMany v_keptFirst v_restMany v_restFirst f_text y_kind y_size y_readJar y_page y_isKept) H → va_D A (w_X8_sale cI cZ cG o o_text o_kind o_size o_readJar o_page o_trial o_book o_kept o_isKept o_tastedFrom o_tastedTo o_order o_spots o_gains o_value y_thrown v_textSize y_place y_jars y_readPlaces y_readJars y_acts v_tasted v_seed v_some v_rowMany v_rowWay v_stuffWhich v_stuffNear v_keptMany v_keptFirst v_restMany v_restFirst f_text y_kind y_size y_readJar y_page y_isKept) → va_S A s.heap H locs → W p l e rm_X8_sale s m (([Value.ref o] : List Value).toArray) below meth c H locs 0 0 Q (F0 m 48 ls []) := by
    intro n48
    induction n48 with
    | zero =>
      intro x1 y_thrown y_place y_jars y_readPlaces y_readJars y_acts y_kind y_size y_readJar y_page y_isKept H locs ls hf hl hP hD hS
      exact g_no hf
    | succ n48 ih48 =>
      intro x1 y_thrown y_place y_jars y_readPlaces y_readJars y_acts y_kind y_size y_readJar y_page y_isKept H locs ls hf hl hP hD hS
      unfold x8_sale_b48 at hf
      refine lv_iload_n hx hb dX8_sale_48 rfl (lv_at hl 1 rfl) ?_
      refine lv_aload_n hx hb dX8_sale_49 rfl (lv_at hl 0 rfl) ?_
      refine va_get (D := (dC, dI)) (ci := 8) (v := .int y_jars) (C := RX8) (T := TX8) (N := 33) hx hb hts hiX8 hown hK hP 0 rfl rfl 4 (by decide) (hts (.fieldLink RX8 60 "GreenJarsModel" "jars" "I") (by decide +kernel)) (fun _ h9 => h9) rfl dX8_sale_50 ?_
      refine lv_icmp_ge (tgt := 156) hx hb dX8_sale_53 (by decide) (fun c1 => ?_) (fun c1 => ?_)
      · have hf := g_pos c1 hf
        refine lv_aload_n hx hb dX8_sale_156 rfl (lv_at hl 0 rfl) ?_
        refine lv_iconst (v := (0 : Int32)) hx hb dX8_sale_157 (by decide) ?_
        refine va_put (D := (dC, dI)) (ci := 8) (v := .int (0 : Int32)) (ty := .int) (C := RX8) (T := TX8) (N := 33) hx hb hts hiX8 tyX8 tyX8_ok nmX8 hown hK hP hD hS 0 rfl rfl 13 (by decide) (hts (.fieldLink RX8 99 "GreenJarsModel" "acts" "I") (by decide +kernel)) (fun _ h9 => h9) rfl (by decide +kernel) rfl rfl (Nat.le_of_ble_eq_true rfl) dX8_sale_158 (fun H locs hP hD hS => ?_)
        have hP : va_P (dC, dI) vwCl (w_X8_sale cI cZ cG o o_text o_kind o_size o_readJar o_page o_trial o_book o_kept o_isKept o_tastedFrom o_tastedTo o_order o_spots o_gains o_value y_thrown v_textSize y_place y_jars y_readPlaces y_readJars (0 : Int32) v_tasted v_seed v_some v_rowMany v_rowWay v_stuffWhich v_stuffNear v_keptMany v_keptFirst v_restMany v_restFirst f_text y_kind y_size y_readJar y_page y_isKept) H := hP
        have hD : va_D A (w_X8_sale cI cZ cG o o_text o_kind o_size o_readJar o_page o_trial o_book o_kept o_isKept o_tastedFrom o_tastedTo o_order o_spots o_gains o_value y_thrown v_textSize y_place y_jars y_readPlaces y_readJars (0 : Int32) v_tasted v_seed v_some v_rowMany v_rowWay v_stuffWhich v_stuffNear v_keptMany v_keptFirst v_restMany v_restFirst f_text y_kind y_size y_readJar y_page y_isKept) := hD
        refine lv_aload_n hx hb dX8_sale_161 rfl (lv_at hl 0 rfl) ?_
        refine va_get (D := (dC, dI)) (ci := 8) (v := .ref o_isKept) (C := RX8) (T := TX8) (N := 33) hx hb hts hiX8 hown hK hP 0 rfl rfl 15 (by decide) (hts (.fieldLink RX8 34 "GreenJarsModel" "isKept" "[Z") (by decide +kernel)) (fun _ h9 => h9) rfl dX8_sale_162 ?_
        refine lv_iconst (v := (0 : Int32)) hx hb dX8_sale_165 (by decide) ?_
        refine lv_iconst (v := (0 : Int32)) hx hb dX8_sale_166 (by decide) ?_
        obtain ⟨h2, hf⟩ := g_chk hf
        refine va_zast hx hb hK hP hD hS 6 1 rfl rfl (gIn_vp h2) dX8_sale_167 (fun H locs hP hD hS => ?_)
        have hP : va_P (dC, dI) vwCl (w_X8_sale cI cZ cG o o_text o_kind o_size o_readJar o_page o_trial o_book o_kept o_isKept o_tastedFrom o_tastedTo o_order o_spots o_gains o_value y_thrown v_textSize y_place y_jars y_readPlaces y_readJars (0 : Int32) v_tasted v_seed v_some v_rowMany v_rowWay v_stuffWhich v_stuffNear v_keptMany v_keptFirst v_restMany v_restFirst f_text y_kind y_size y_readJar y_page (upd y_isKept (0 : Int32).toNatClampNeg (vp_nar .boolean (0 : Int32)))) H := hP
        have hD : va_D A (w_X8_sale cI cZ cG o o_text o_kind o_size o_readJar o_page o_trial o_book o_kept o_isKept o_tastedFrom o_tastedTo o_order o_spots o_gains o_value y_thrown v_textSize y_place y_jars y_readPlaces y_readJars (0 : Int32) v_tasted v_seed v_some v_rowMany v_rowWay v_stuffWhich v_stuffNear v_keptMany v_keptFirst v_restMany v_restFirst f_text y_kind y_size y_readJar y_page (upd y_isKept (0 : Int32).toNatClampNeg (vp_nar .boolean (0 : Int32)))) := hD
        refine lv_aload_n hx hb dX8_sale_168 rfl (lv_at hl 0 rfl) ?_
        refine va_get (D := (dC, dI)) (ci := 8) (v := .ref o_isKept) (C := RX8) (T := TX8) (N := 33) hx hb hts hiX8 hown hK hP 0 rfl rfl 15 (by decide) (hts (.fieldLink RX8 34 "GreenJarsModel" "isKept" "[Z") (by decide +kernel)) (fun _ h9 => h9) rfl dX8_sale_169 ?_
        refine lv_iconst (v := (1 : Int32)) hx hb dX8_sale_172 (by decide) ?_
        refine lv_iconst (v := (0 : Int32)) hx hb dX8_sale_173 (by decide) ?_
        obtain ⟨h3, hf⟩ := g_chk hf
        refine va_zast hx hb hK hP hD hS 6 1 rfl rfl (gIn_vp h3) dX8_sale_174 (fun H locs hP hD hS => ?_)
        have hP : va_P (dC, dI) vwCl (w_X8_sale cI cZ cG o o_text o_kind o_size o_readJar o_page o_trial o_book o_kept o_isKept o_tastedFrom o_tastedTo o_order o_spots o_gains o_value y_thrown v_textSize y_place y_jars y_readPlaces y_readJars (0 : Int32) v_tasted v_seed v_some v_rowMany v_rowWay v_stuffWhich v_stuffNear v_keptMany v_keptFirst v_restMany v_restFirst f_text y_kind y_size y_readJar y_page (upd (upd y_isKept (0 : Int32).toNatClampNeg (vp_nar .boolean (0 : Int32))) (1 : Int32).toNatClampNeg (vp_nar .boolean (0 : Int32)))) H := hP
        have hD : va_D A (w_X8_sale cI cZ cG o o_text o_kind o_size o_readJar o_page o_trial o_book o_kept o_isKept o_tastedFrom o_tastedTo o_order o_spots o_gains o_value y_thrown v_textSize y_place y_jars y_readPlaces y_readJars (0 : Int32) v_tasted v_seed v_some v_rowMany v_rowWay v_stuffWhich v_stuffNear v_keptMany v_keptFirst v_restMany v_restFirst f_text y_kind y_size y_readJar y_page (upd (upd y_isKept (0 : Int32).toNatClampNeg (vp_nar .boolean (0 : Int32))) (1 : Int32).toNatClampNeg (vp_nar .boolean (0 : Int32)))) := hD
        refine lv_aload_n hx hb dX8_sale_175 rfl (lv_at hl 0 rfl) ?_
        refine va_get (D := (dC, dI)) (ci := 8) (v := .int y_jars) (C := RX8) (T := TX8) (N := 33) hx hb hts hiX8 hown hK hP 0 rfl rfl 4 (by decide) (hts (.fieldLink RX8 60 "GreenJarsModel" "jars" "I") (by decide +kernel)) (fun _ h9 => h9) rfl dX8_sale_176 ?_
        rw [hQ]
        cases hf
        exact W.iret hx hb hr (fun t ht hW => ⟨⟨_, (), rfl, rfl, by rw [ht]; exact hP, va_K.moved hW.alike hK, hD⟩, hS.F ht⟩) hS.2.2 dX8_sale_179
      · have hf := g_neg c1 hf
        refine lv_aload_n hx hb dX8_sale_56 rfl (lv_at hl 0 rfl) ?_
        refine va_get (D := (dC, dI)) (ci := 8) (v := .ref o_page) (C := RX8) (T := TX8) (N := 33) hx hb hts hiX8 hown hK hP 0 rfl rfl 10 (by decide) (hts (.fieldLink RX8 22 "GreenJarsModel" "page" "[I") (by decide +kernel)) (fun _ h9 => h9) rfl dX8_sale_57 ?_
        refine lv_iload_n hx hb dX8_sale_60 rfl (lv_at hl 1 rfl) ?_
        refine lv_aload_n hx hb dX8_sale_61 rfl (lv_at hl 0 rfl) ?_
        refine va_get (D := (dC, dI)) (ci := 8) (v := .ref o_readJar) (C := RX8) (T := TX8) (N := 33) hx hb hts hiX8 hown hK hP 0 rfl rfl 9 (by decide) (hts (.fieldLink RX8 19 "GreenJarsModel" "readJar" "[I") (by decide +kernel)) (fun _ h9 => h9) rfl dX8_sale_62 ?_
        refine lv_iconst (v := (5 : Int32)) hx hb dX8_sale_65 (by decide) ?_
        refine lv_iload_n hx hb dX8_sale_66 rfl (lv_at hl 1 rfl) ?_
        refine lv_imul hx hb dX8_sale_67 ?_
        obtain ⟨h4, hf⟩ := g_chk hf
        refine va_iald hx hb hK hP 4 0 rfl rfl (gIn_vp h4) dX8_sale_68 ?_
        obtain ⟨h5, hf⟩ := g_chk hf
        refine va_iast hx hb hK hP hD hS 5 0 rfl rfl (gIn_vp h5) dX8_sale_69 (fun H locs hP hD hS => ?_)
        have hP : va_P (dC, dI) vwCl (w_X8_sale cI cZ cG o o_text o_kind o_size o_readJar o_page o_trial o_book o_kept o_isKept o_tastedFrom o_tastedTo o_order o_spots o_gains o_value y_thrown v_textSize y_place y_jars y_readPlaces y_readJars y_acts v_tasted v_seed v_some v_rowMany v_rowWay v_stuffWhich v_stuffNear v_keptMany v_keptFirst v_restMany v_restFirst f_text y_kind y_size y_readJar (upd y_page x1.toNatClampNeg (y_readJar ((5 : Int32) * x1).toNatClampNeg)) y_isKept) H := hP
        have hD : va_D A (w_X8_sale cI cZ cG o o_text o_kind o_size o_readJar o_page o_trial o_book o_kept o_isKept o_tastedFrom o_tastedTo o_order o_spots o_gains o_value y_thrown v_textSize y_place y_jars y_readPlaces y_readJars y_acts v_tasted v_seed v_some v_rowMany v_rowWay v_stuffWhich v_stuffNear v_keptMany v_keptFirst v_restMany v_restFirst f_text y_kind y_size y_readJar (upd y_page x1.toNatClampNeg (y_readJar ((5 : Int32) * x1).toNatClampNeg)) y_isKept) := hD
        refine lv_aload_n hx hb dX8_sale_70 rfl (lv_at hl 0 rfl) ?_
        refine va_get (D := (dC, dI)) (ci := 8) (v := .ref o_page) (C := RX8) (T := TX8) (N := 33) hx hb hts hiX8 hown hK hP 0 rfl rfl 10 (by decide) (hts (.fieldLink RX8 22 "GreenJarsModel" "page" "[I") (by decide +kernel)) (fun _ h9 => h9) rfl dX8_sale_71 ?_
        refine lv_bipush (v := (6 : Int32)) hx hb dX8_sale_74 (by decide +kernel) ?_
        refine lv_iload_n hx hb dX8_sale_76 rfl (lv_at hl 1 rfl) ?_
        refine lv_iadd hx hb dX8_sale_77 ?_
        refine lv_aload_n hx hb dX8_sale_78 rfl (lv_at hl 0 rfl) ?_
        refine va_get (D := (dC, dI)) (ci := 8) (v := .ref o_readJar) (C := RX8) (T := TX8) (N := 33) hx hb hts hiX8 hown hK hP 0 rfl rfl 9 (by decide) (hts (.fieldLink RX8 19 "GreenJarsModel" "readJar" "[I") (by decide +kernel)) (fun _ h9 => h9) rfl dX8_sale_79 ?_
        refine lv_iconst (v := (5 : Int32)) hx hb dX8_sale_82 (by decide) ?_
        refine lv_iload_n hx hb dX8_sale_83 rfl (lv_at hl 1 rfl) ?_
        refine lv_imul hx hb dX8_sale_84 ?_
        refine lv_iconst (v := (1 : Int32)) hx hb dX8_sale_85 (by decide) ?_
        refine lv_iadd hx hb dX8_sale_86 ?_
        obtain ⟨h6, hf⟩ := g_chk hf
        refine va_iald hx hb hK hP 4 0 rfl rfl (gIn_vp h6) dX8_sale_87 ?_
        obtain ⟨h7, hf⟩ := g_chk hf
        refine va_iast hx hb hK hP hD hS 5 0 rfl rfl (gIn_vp h7) dX8_sale_88 (fun H locs hP hD hS => ?_)
        have hP : va_P (dC, dI) vwCl (w_X8_sale cI cZ cG o o_text o_kind o_size o_readJar o_page o_trial o_book o_kept o_isKept o_tastedFrom o_tastedTo o_order o_spots o_gains o_value y_thrown v_textSize y_place y_jars y_readPlaces y_readJars y_acts v_tasted v_seed v_some v_rowMany v_rowWay v_stuffWhich v_stuffNear v_keptMany v_keptFirst v_restMany v_restFirst f_text y_kind y_size y_readJar (upd (upd y_page x1.toNatClampNeg (y_readJar ((5 : Int32) * x1).toNatClampNeg)) ((6 : Int32) + x1).toNatClampNeg (y_readJar (((5 : Int32) * x1) + (1 : Int32)).toNatClampNeg)) y_isKept) H := hP
        have hD : va_D A (w_X8_sale cI cZ cG o o_text o_kind o_size o_readJar o_page o_trial o_book o_kept o_isKept o_tastedFrom o_tastedTo o_order o_spots o_gains o_value y_thrown v_textSize y_place y_jars y_readPlaces y_readJars y_acts v_tasted v_seed v_some v_rowMany v_rowWay v_stuffWhich v_stuffNear v_keptMany v_keptFirst v_restMany v_restFirst f_text y_kind y_size y_readJar (upd (upd y_page x1.toNatClampNeg (y_readJar ((5 : Int32) * x1).toNatClampNeg)) ((6 : Int32) + x1).toNatClampNeg (y_readJar (((5 : Int32) * x1) + (1 : Int32)).toNatClampNeg)) y_isKept) := hD
        refine lv_aload_n hx hb dX8_sale_89 rfl (lv_at hl 0 rfl) ?_
        refine va_get (D := (dC, dI)) (ci := 8) (v := .ref o_page) (C := RX8) (T := TX8) (N := 33) hx hb hts hiX8 hown hK hP 0 rfl rfl 10 (by decide) (hts (.fieldLink RX8 22 "GreenJarsModel" "page" "[I") (by decide +kernel)) (fun _ h9 => h9) rfl dX8_sale_90 ?_
        refine lv_bipush (v := (12 : Int32)) hx hb dX8_sale_93 (by decide +kernel) ?_
        refine lv_iload_n hx hb dX8_sale_95 rfl (lv_at hl 1 rfl) ?_
        refine lv_iadd hx hb dX8_sale_96 ?_
        refine lv_aload_n hx hb dX8_sale_97 rfl (lv_at hl 0 rfl) ?_
        refine va_get (D := (dC, dI)) (ci := 8) (v := .ref o_readJar) (C := RX8) (T := TX8) (N := 33) hx hb hts hiX8 hown hK hP 0 rfl rfl 9 (by decide) (hts (.fieldLink RX8 19 "GreenJarsModel" "readJar" "[I") (by decide +kernel)) (fun _ h9 => h9) rfl dX8_sale_98 ?_
        refine lv_iconst (v := (5 : Int32)) hx hb dX8_sale_101 (by decide) ?_
        refine lv_iload_n hx hb dX8_sale_102 rfl (lv_at hl 1 rfl) ?_
        refine lv_imul hx hb dX8_sale_103 ?_
        refine lv_iconst (v := (2 : Int32)) hx hb dX8_sale_104 (by decide) ?_
        refine lv_iadd hx hb dX8_sale_105 ?_
        obtain ⟨h8, hf⟩ := g_chk hf
        refine va_iald hx hb hK hP 4 0 rfl rfl (gIn_vp h8) dX8_sale_106 ?_
        obtain ⟨h9, hf⟩ := g_chk hf
        refine va_iast hx hb hK hP hD hS 5 0 rfl rfl (gIn_vp h9) dX8_sale_107 (fun H locs hP hD hS => ?_)
        have hP : va_P (dC, dI) vwCl (w_X8_sale cI cZ cG o o_text o_kind o_size o_readJar o_page o_trial o_book o_kept o_isKept o_tastedFrom o_tastedTo o_order o_spots o_gains o_value y_thrown v_textSize y_place y_jars y_readPlaces y_readJars y_acts v_tasted v_seed v_some v_rowMany v_rowWay v_stuffWhich v_stuffNear v_keptMany v_keptFirst v_restMany v_restFirst f_text y_kind y_size y_readJar (upd (upd (upd y_page x1.toNatClampNeg (y_readJar ((5 : Int32) * x1).toNatClampNeg)) ((6 : Int32) + x1).toNatClampNeg (y_readJar (((5 : Int32) * x1) + (1 : Int32)).toNatClampNeg)) ((12 : Int32) + x1).toNatClampNeg (y_readJar (((5 : Int32) * x1) + (2 : Int32)).toNatClampNeg)) y_isKept) H := hP
        have hD : va_D A (w_X8_sale cI cZ cG o o_text o_kind o_size o_readJar o_page o_trial o_book o_kept o_isKept o_tastedFrom o_tastedTo o_order o_spots o_gains o_value y_thrown v_textSize y_place y_jars y_readPlaces y_readJars y_acts v_tasted v_seed v_some v_rowMany v_rowWay v_stuffWhich v_stuffNear v_keptMany v_keptFirst v_restMany v_restFirst f_text y_kind y_size y_readJar (upd (upd (upd y_page x1.toNatClampNeg (y_readJar ((5 : Int32) * x1).toNatClampNeg)) ((6 : Int32) + x1).toNatClampNeg (y_readJar (((5 : Int32) * x1) + (1 : Int32)).toNatClampNeg)) ((12 : Int32) + x1).toNatClampNeg (y_readJar (((5 : Int32) * x1) + (2 : Int32)).toNatClampNeg)) y_isKept) := hD
        refine lv_aload_n hx hb dX8_sale_108 rfl (lv_at hl 0 rfl) ?_
        refine va_get (D := (dC, dI)) (ci := 8) (v := .ref o_page) (C := RX8) (T := TX8) (N := 33) hx hb hts hiX8 hown hK hP 0 rfl rfl 10 (by decide) (hts (.fieldLink RX8 22 "GreenJarsModel" "page" "[I") (by decide +kernel)) (fun _ h9 => h9) rfl dX8_sale_109 ?_
        refine lv_bipush (v := (24 : Int32)) hx hb dX8_sale_112 (by decide +kernel) ?_
        refine lv_iload_n hx hb dX8_sale_114 rfl (lv_at hl 1 rfl) ?_
        refine lv_iadd hx hb dX8_sale_115 ?_
        refine lv_iconst (v := (1 : Int32)) hx hb dX8_sale_116 (by decide) ?_
        obtain ⟨h10, hf⟩ := g_chk hf
        refine va_iast hx hb hK hP hD hS 5 0 rfl rfl (gIn_vp h10) dX8_sale_117 (fun H locs hP hD hS => ?_)
        have hP : va_P (dC, dI) vwCl (w_X8_sale cI cZ cG o o_text o_kind o_size o_readJar o_page o_trial o_book o_kept o_isKept o_tastedFrom o_tastedTo o_order o_spots o_gains o_value y_thrown v_textSize y_place y_jars y_readPlaces y_readJars y_acts v_tasted v_seed v_some v_rowMany v_rowWay v_stuffWhich v_stuffNear v_keptMany v_keptFirst v_restMany v_restFirst f_text y_kind y_size y_readJar (upd (upd (upd (upd y_page x1.toNatClampNeg (y_readJar ((5 : Int32) * x1).toNatClampNeg)) ((6 : Int32) + x1).toNatClampNeg (y_readJar (((5 : Int32) * x1) + (1 : Int32)).toNatClampNeg)) ((12 : Int32) + x1).toNatClampNeg (y_readJar (((5 : Int32) * x1) + (2 : Int32)).toNatClampNeg)) ((24 : Int32) + x1).toNatClampNeg (1 : Int32)) y_isKept) H := hP
        have hD : va_D A (w_X8_sale cI cZ cG o o_text o_kind o_size o_readJar o_page o_trial o_book o_kept o_isKept o_tastedFrom o_tastedTo o_order o_spots o_gains o_value y_thrown v_textSize y_place y_jars y_readPlaces y_readJars y_acts v_tasted v_seed v_some v_rowMany v_rowWay v_stuffWhich v_stuffNear v_keptMany v_keptFirst v_restMany v_restFirst f_text y_kind y_size y_readJar (upd (upd (upd (upd y_page x1.toNatClampNeg (y_readJar ((5 : Int32) * x1).toNatClampNeg)) ((6 : Int32) + x1).toNatClampNeg (y_readJar (((5 : Int32) * x1) + (1 : Int32)).toNatClampNeg)) ((12 : Int32) + x1).toNatClampNeg (y_readJar (((5 : Int32) * x1) + (2 : Int32)).toNatClampNeg)) ((24 : Int32) + x1).toNatClampNeg (1 : Int32)) y_isKept) := hD
        refine lv_aload_n hx hb dX8_sale_118 rfl (lv_at hl 0 rfl) ?_
        refine va_get (D := (dC, dI)) (ci := 8) (v := .ref o_kind) (C := RX8) (T := TX8) (N := 33) hx hb hts hiX8 hown hK hP 0 rfl rfl 5 (by decide) (hts (.fieldLink RX8 13 "GreenJarsModel" "kind" "[I") (by decide +kernel)) (fun _ h9 => h9) rfl dX8_sale_119 ?_
        refine lv_iload_n hx hb dX8_sale_122 rfl (lv_at hl 1 rfl) ?_
        refine lv_aload_n hx hb dX8_sale_123 rfl (lv_at hl 0 rfl) ?_
        refine va_get (D := (dC, dI)) (ci := 8) (v := .ref o_readJar) (C := RX8) (T := TX8) (N := 33) hx hb hts hiX8 hown hK hP 0 rfl rfl 9 (by decide) (hts (.fieldLink RX8 19 "GreenJarsModel" "readJar" "[I") (by decide +kernel)) (fun _ h9 => h9) rfl dX8_sale_124 ?_
        refine lv_iconst (v := (5 : Int32)) hx hb dX8_sale_127 (by decide) ?_
        refine lv_iload_n hx hb dX8_sale_128 rfl (lv_at hl 1 rfl) ?_
        refine lv_imul hx hb dX8_sale_129 ?_
        refine lv_iconst (v := (3 : Int32)) hx hb dX8_sale_130 (by decide) ?_
        refine lv_iadd hx hb dX8_sale_131 ?_
        obtain ⟨h11, hf⟩ := g_chk hf
        refine va_iald hx hb hK hP 4 0 rfl rfl (gIn_vp h11) dX8_sale_132 ?_
        obtain ⟨h12, hf⟩ := g_chk hf
        refine va_iast hx hb hK hP hD hS 2 0 rfl rfl (gIn_vp h12) dX8_sale_133 (fun H locs hP hD hS => ?_)
        have hP : va_P (dC, dI) vwCl (w_X8_sale cI cZ cG o o_text o_kind o_size o_readJar o_page o_trial o_book o_kept o_isKept o_tastedFrom o_tastedTo o_order o_spots o_gains o_value y_thrown v_textSize y_place y_jars y_readPlaces y_readJars y_acts v_tasted v_seed v_some v_rowMany v_rowWay v_stuffWhich v_stuffNear v_keptMany v_keptFirst v_restMany v_restFirst f_text (upd y_kind x1.toNatClampNeg (y_readJar (((5 : Int32) * x1) + (3 : Int32)).toNatClampNeg)) y_size y_readJar (upd (upd (upd (upd y_page x1.toNatClampNeg (y_readJar ((5 : Int32) * x1).toNatClampNeg)) ((6 : Int32) + x1).toNatClampNeg (y_readJar (((5 : Int32) * x1) + (1 : Int32)).toNatClampNeg)) ((12 : Int32) + x1).toNatClampNeg (y_readJar (((5 : Int32) * x1) + (2 : Int32)).toNatClampNeg)) ((24 : Int32) + x1).toNatClampNeg (1 : Int32)) y_isKept) H := hP
        have hD : va_D A (w_X8_sale cI cZ cG o o_text o_kind o_size o_readJar o_page o_trial o_book o_kept o_isKept o_tastedFrom o_tastedTo o_order o_spots o_gains o_value y_thrown v_textSize y_place y_jars y_readPlaces y_readJars y_acts v_tasted v_seed v_some v_rowMany v_rowWay v_stuffWhich v_stuffNear v_keptMany v_keptFirst v_restMany v_restFirst f_text (upd y_kind x1.toNatClampNeg (y_readJar (((5 : Int32) * x1) + (3 : Int32)).toNatClampNeg)) y_size y_readJar (upd (upd (upd (upd y_page x1.toNatClampNeg (y_readJar ((5 : Int32) * x1).toNatClampNeg)) ((6 : Int32) + x1).toNatClampNeg (y_readJar (((5 : Int32) * x1) + (1 : Int32)).toNatClampNeg)) ((12 : Int32) + x1).toNatClampNeg (y_readJar (((5 : Int32) * x1) + (2 : Int32)).toNatClampNeg)) ((24 : Int32) + x1).toNatClampNeg (1 : Int32)) y_isKept) := hD
        refine lv_aload_n hx hb dX8_sale_134 rfl (lv_at hl 0 rfl) ?_
        refine va_get (D := (dC, dI)) (ci := 8) (v := .ref o_size) (C := RX8) (T := TX8) (N := 33) hx hb hts hiX8 hown hK hP 0 rfl rfl 6 (by decide) (hts (.fieldLink RX8 16 "GreenJarsModel" "size" "[I") (by decide +kernel)) (fun _ h9 => h9) rfl dX8_sale_135 ?_
        refine lv_iload_n hx hb dX8_sale_138 rfl (lv_at hl 1 rfl) ?_
        refine lv_aload_n hx hb dX8_sale_139 rfl (lv_at hl 0 rfl) ?_
        refine va_get (D := (dC, dI)) (ci := 8) (v := .ref o_readJar) (C := RX8) (T := TX8) (N := 33) hx hb hts hiX8 hown hK hP 0 rfl rfl 9 (by decide) (hts (.fieldLink RX8 19 "GreenJarsModel" "readJar" "[I") (by decide +kernel)) (fun _ h9 => h9) rfl dX8_sale_140 ?_
        refine lv_iconst (v := (5 : Int32)) hx hb dX8_sale_143 (by decide) ?_
        refine lv_iload_n hx hb dX8_sale_144 rfl (lv_at hl 1 rfl) ?_
        refine lv_imul hx hb dX8_sale_145 ?_
        refine lv_iconst (v := (4 : Int32)) hx hb dX8_sale_146 (by decide) ?_
        refine lv_iadd hx hb dX8_sale_147 ?_
        obtain ⟨h13, hf⟩ := g_chk hf
        refine va_iald hx hb hK hP 4 0 rfl rfl (gIn_vp h13) dX8_sale_148 ?_
        obtain ⟨h14, hf⟩ := g_chk hf
        refine va_iast hx hb hK hP hD hS 3 0 rfl rfl (gIn_vp h14) dX8_sale_149 (fun H locs hP hD hS => ?_)
        have hP : va_P (dC, dI) vwCl (w_X8_sale cI cZ cG o o_text o_kind o_size o_readJar o_page o_trial o_book o_kept o_isKept o_tastedFrom o_tastedTo o_order o_spots o_gains o_value y_thrown v_textSize y_place y_jars y_readPlaces y_readJars y_acts v_tasted v_seed v_some v_rowMany v_rowWay v_stuffWhich v_stuffNear v_keptMany v_keptFirst v_restMany v_restFirst f_text (upd y_kind x1.toNatClampNeg (y_readJar (((5 : Int32) * x1) + (3 : Int32)).toNatClampNeg)) (upd y_size x1.toNatClampNeg (y_readJar (((5 : Int32) * x1) + (4 : Int32)).toNatClampNeg)) y_readJar (upd (upd (upd (upd y_page x1.toNatClampNeg (y_readJar ((5 : Int32) * x1).toNatClampNeg)) ((6 : Int32) + x1).toNatClampNeg (y_readJar (((5 : Int32) * x1) + (1 : Int32)).toNatClampNeg)) ((12 : Int32) + x1).toNatClampNeg (y_readJar (((5 : Int32) * x1) + (2 : Int32)).toNatClampNeg)) ((24 : Int32) + x1).toNatClampNeg (1 : Int32)) y_isKept) H := hP
        have hD : va_D A (w_X8_sale cI cZ cG o o_text o_kind o_size o_readJar o_page o_trial o_book o_kept o_isKept o_tastedFrom o_tastedTo o_order o_spots o_gains o_value y_thrown v_textSize y_place y_jars y_readPlaces y_readJars y_acts v_tasted v_seed v_some v_rowMany v_rowWay v_stuffWhich v_stuffNear v_keptMany v_keptFirst v_restMany v_restFirst f_text (upd y_kind x1.toNatClampNeg (y_readJar (((5 : Int32) * x1) + (3 : Int32)).toNatClampNeg)) (upd y_size x1.toNatClampNeg (y_readJar (((5 : Int32) * x1) + (4 : Int32)).toNatClampNeg)) y_readJar (upd (upd (upd (upd y_page x1.toNatClampNeg (y_readJar ((5 : Int32) * x1).toNatClampNeg)) ((6 : Int32) + x1).toNatClampNeg (y_readJar (((5 : Int32) * x1) + (1 : Int32)).toNatClampNeg)) ((12 : Int32) + x1).toNatClampNeg (y_readJar (((5 : Int32) * x1) + (2 : Int32)).toNatClampNeg)) ((24 : Int32) + x1).toNatClampNeg (1 : Int32)) y_isKept) := hD
        refine lv_iinc (v := (x1 + (1 : Int32))) (lv' := [(1, .int (x1 + (1 : Int32))), (0, .ref o)]) hx hb dX8_sale_150 hl (k := 1) rfl rfl (by decide) rfl (fun ls hl => ?_)
        refine lv_goto (tgt := 48) hx hb dX8_sale_153 (by decide) ?_
        exact ih48 (x1 + (1 : Int32)) y_thrown y_place y_jars y_readPlaces y_readJars y_acts (upd y_kind x1.toNatClampNeg (y_readJar (((5 : Int32) * x1) + (3 : Int32)).toNatClampNeg)) (upd y_size x1.toNatClampNeg (y_readJar (((5 : Int32) * x1) + (4 : Int32)).toNatClampNeg)) y_readJar (upd (upd (upd (upd y_page x1.toNatClampNeg (y_readJar ((5 : Int32) * x1).toNatClampNeg)) ((6 : Int32) + x1).toNatClampNeg (y_readJar (((5 : Int32) * x1) + (1 : Int32)).toNatClampNeg)) ((12 : Int32) + x1).toNatClampNeg (y_readJar (((5 : Int32) * x1) + (2 : Int32)).toNatClampNeg)) ((24 : Int32) + x1).toNatClampNeg (1 : Int32)) y_isKept H locs ls hf (lv_sub hl [1, 0] rfl) hP hD hS
  have L27 : ∀ (n27 : Nat), ∀ (x1 : Int32) (y_thrown : Int32) (y_place : Int32) (y_jars : Int32) (y_readPlaces : Int32) (y_readJars : Int32) (y_acts : Int32) (y_kind : Nat → Int32) (y_size : Nat → Int32) (y_readJar : Nat → Int32) (y_page : Nat → Int32) (y_isKept : Nat → Int32) (H : Heap) (locs : List Loc) (ls : Array Slot), x8_sale_b27 N v_textSize f_text n27 x1 y_thrown y_place y_jars y_readPlaces y_readJars y_acts y_kind y_size y_readJar y_page y_isKept = some (r0, n_thrown, n_place, n_jars, n_readPlaces, n_readJars, n_acts, n_kind, n_size, n_readJar, n_page, n_isKept) → lv_has ls 2 [(0, .ref o), (1, .int x1)] → va_P (dC, dI) vwCl (w_X8_sale cI cZ cG o o_text o_kind o_size o_readJar o_page o_trial o_book o_kept o_isKept o_tastedFrom o_tastedTo o_order o_spots o_gains o_value y_thrown v_textSize y_place y_jars y_readPlaces y_readJars y_acts v_tasted v_seed v_some v_rowMany v_rowWay v_stuffWhich v_stuffNear v_keptMany v_keptFirst v_restMany v_restFirst f_text y_kind y_size y_readJar y_page y_isKept) H → va_D A (w_X8_sale cI cZ cG o o_text o_kind o_size o_readJar o_page o_trial o_book o_kept o_isKept o_tastedFrom o_tastedTo o_order o_spots o_gains o_value y_thrown v_textSize y_place y_jars y_readPlaces y_readJars y_acts v_tasted v_seed v_some v_rowMany v_rowWay v_stuffWhich v_stuffNear v_keptMany v_keptFirst v_restMany v_restFirst f_text y_kind y_size y_readJar y_page y_isKept) → va_S A s.heap H locs → W p l e rm_X8_sale s m (([Value.ref o] : List Value).toArray) below meth c H locs 0 0 Q (F0 m 27 ls []) := by
    intro n27
    induction n27 with
    | zero =>
      intro x1 y_thrown y_place y_jars y_readPlaces y_readJars y_acts y_kind y_size y_readJar y_page y_isKept H locs ls hf hl hP hD hS
      exact g_no hf
    | succ n27 ih27 =>
      intro x1 y_thrown y_place y_jars y_readPlaces y_readJars y_acts y_kind y_size y_readJar y_page y_isKept H locs ls hf hl hP hD hS
      unfold x8_sale_b27 at hf
      refine lv_iload_n hx hb dX8_sale_27 rfl (lv_at hl 1 rfl) ?_
      refine lv_bipush (v := (37 : Int32)) hx hb dX8_sale_28 (by decide +kernel) ?_
      refine lv_icmp_ge (tgt := 46) hx hb dX8_sale_30 (by decide) (fun c15 => ?_) (fun c15 => ?_)
      · have hf := g_pos c15 hf
        refine lv_iconst (v := (0 : Int32)) hx hb dX8_sale_46 (by decide) ?_
        refine lv_istore_n (lv' := [(1, .int (0 : Int32)), (0, .ref o)]) hx hb dX8_sale_47 rfl hl (by decide) rfl (fun ls hl => ?_)
        exact L48 N (0 : Int32) y_thrown y_place y_jars y_readPlaces y_readJars y_acts y_kind y_size y_readJar y_page y_isKept H locs ls hf (lv_sub hl [1, 0] rfl) hP hD hS
      · have hf := g_neg c15 hf
        refine lv_aload_n hx hb dX8_sale_33 rfl (lv_at hl 0 rfl) ?_
        refine va_get (D := (dC, dI)) (ci := 8) (v := .ref o_page) (C := RX8) (T := TX8) (N := 33) hx hb hts hiX8 hown hK hP 0 rfl rfl 10 (by decide) (hts (.fieldLink RX8 22 "GreenJarsModel" "page" "[I") (by decide +kernel)) (fun _ h9 => h9) rfl dX8_sale_34 ?_
        refine lv_iload_n hx hb dX8_sale_37 rfl (lv_at hl 1 rfl) ?_
        refine lv_iconst (v := (0 : Int32)) hx hb dX8_sale_38 (by decide) ?_
        obtain ⟨h16, hf⟩ := g_chk hf
        refine va_iast hx hb hK hP hD hS 5 0 rfl rfl (gIn_vp h16) dX8_sale_39 (fun H locs hP hD hS => ?_)
        have hP : va_P (dC, dI) vwCl (w_X8_sale cI cZ cG o o_text o_kind o_size o_readJar o_page o_trial o_book o_kept o_isKept o_tastedFrom o_tastedTo o_order o_spots o_gains o_value y_thrown v_textSize y_place y_jars y_readPlaces y_readJars y_acts v_tasted v_seed v_some v_rowMany v_rowWay v_stuffWhich v_stuffNear v_keptMany v_keptFirst v_restMany v_restFirst f_text y_kind y_size y_readJar (upd y_page x1.toNatClampNeg (0 : Int32)) y_isKept) H := hP
        have hD : va_D A (w_X8_sale cI cZ cG o o_text o_kind o_size o_readJar o_page o_trial o_book o_kept o_isKept o_tastedFrom o_tastedTo o_order o_spots o_gains o_value y_thrown v_textSize y_place y_jars y_readPlaces y_readJars y_acts v_tasted v_seed v_some v_rowMany v_rowWay v_stuffWhich v_stuffNear v_keptMany v_keptFirst v_restMany v_restFirst f_text y_kind y_size y_readJar (upd y_page x1.toNatClampNeg (0 : Int32)) y_isKept) := hD
        refine lv_iinc (v := (x1 + (1 : Int32))) (lv' := [(1, .int (x1 + (1 : Int32))), (0, .ref o)]) hx hb dX8_sale_40 hl (k := 1) rfl rfl (by decide) rfl (fun ls hl => ?_)
        refine lv_goto (tgt := 27) hx hb dX8_sale_43 (by decide) ?_
        exact ih27 (x1 + (1 : Int32)) y_thrown y_place y_jars y_readPlaces y_readJars y_acts y_kind y_size y_readJar (upd y_page x1.toNatClampNeg (0 : Int32)) y_isKept H locs ls hf (lv_sub hl [1, 0] rfl) hP hD hS
  unfold x8_sale at hf
  refine lv_aload_n hx hb dX8_sale_0 rfl (lv_at hl 0 rfl) ?_
  refine lv_iconst (v := (0 : Int32)) hx hb dX8_sale_1 (by decide) ?_
  refine va_put (D := (dC, dI)) (ci := 8) (v := .int (0 : Int32)) (ty := .int) (C := RX8) (T := TX8) (N := 33) hx hb hts hiX8 tyX8 tyX8_ok nmX8 hown hK hP hD hS 0 rfl rfl 0 (by decide) (hts (.fieldLink RX8 56 "GreenJarsModel" "thrown" "I") (by decide +kernel)) (fun _ h9 => h9) rfl (by decide +kernel) rfl rfl (Nat.le_of_ble_eq_true rfl) dX8_sale_2 (fun H locs hP hD hS => ?_)
  have hP : va_P (dC, dI) vwCl (w_X8_sale cI cZ cG o o_text o_kind o_size o_readJar o_page o_trial o_book o_kept o_isKept o_tastedFrom o_tastedTo o_order o_spots o_gains o_value (0 : Int32) v_textSize v_place v_jars v_readPlaces v_readJars v_acts v_tasted v_seed v_some v_rowMany v_rowWay v_stuffWhich v_stuffNear v_keptMany v_keptFirst v_restMany v_restFirst f_text f_kind f_size f_readJar f_page f_isKept) H := hP
  have hD : va_D A (w_X8_sale cI cZ cG o o_text o_kind o_size o_readJar o_page o_trial o_book o_kept o_isKept o_tastedFrom o_tastedTo o_order o_spots o_gains o_value (0 : Int32) v_textSize v_place v_jars v_readPlaces v_readJars v_acts v_tasted v_seed v_some v_rowMany v_rowWay v_stuffWhich v_stuffNear v_keptMany v_keptFirst v_restMany v_restFirst f_text f_kind f_size f_readJar f_page f_isKept) := hD
  refine lv_aload_n hx hb dX8_sale_5 rfl (lv_at hl 0 rfl) ?_
  obtain ⟨r17, y18, y19, y20, y21, hc22, hf⟩ := g_b5 hf
  refine g_wV (As := []) (rest := []) (wr := [(o_kind, .inl (cI, 6, .inl f_kind)), (o_size, .inl (cI, 6, .inl f_size)), (o_page, .inl (cI, 37, .inl f_page)), (o_isKept, .inl (cZ, 2, .inl f_isKept))]) (wn := (w_X8_sale cI cZ cG o o_text o_kind o_size o_readJar o_page o_trial o_book o_kept o_isKept o_tastedFrom o_tastedTo o_order o_spots o_gains o_value (0 : Int32) v_textSize y18 v_jars y19 y20 v_acts v_tasted v_seed v_some v_rowMany v_rowWay v_stuffWhich v_stuffNear v_keptMany v_keptFirst v_restMany v_restFirst f_text f_kind f_size y21 f_page f_isKept)) ⟨hx, hb, hml, hown, hts⟩ (c_X8_readSale l dC dI cI cZ cG o o_text o_kind o_size o_readJar o_page o_trial o_book o_kept o_isKept o_tastedFrom o_tastedTo o_order o_spots o_gains o_value H.size  (0 : Int32) v_textSize v_place v_jars v_readPlaces v_readJars v_acts v_tasted v_seed v_some v_rowMany v_rowWay v_stuffWhich v_stuffNear v_keptMany v_keptFirst v_restMany v_restFirst f_text f_readJar hc22) (cwV 0 hts gX8_sale_X8_readSale rfl rfl rfl (by decide +kernel) ⟨Nat.le_of_ble_eq_true rfl, Nat.le_of_ble_eq_true rfl⟩) hK hN hP hD hS hA [0, 1, 4] [2, 3, 5, 6] [4, 5, 0, 1, 6, 2, 3] rfl rfl (by decide) rfl (by decide) (by decide) rfl (by decide) (va_recv hK hP (ci := 8) (q0 := 0) rfl rfl) rfl hl.1 rfl (Nat.le_of_ble_eq_true rfl) dX8_sale_6 ⟨Nat.zero_le _, Nat.zero_le _⟩ (fun H locs hP hD hS => ?_)
  refine lv_bipush (v := (-9 : Int32)) hx hb dX8_sale_9 (by decide +kernel) ?_
  refine lv_icmp_eq (tgt := 17) hx hb dX8_sale_11 (by decide) (fun c23 => ?_) (fun c23 => ?_)
  · have hf := g_pos c23 hf
    refine lv_aload_n hx hb dX8_sale_17 rfl (lv_at hl 0 rfl) ?_
    refine lv_aload_n hx hb dX8_sale_18 rfl (lv_at hl 0 rfl) ?_
    refine va_get (D := (dC, dI)) (ci := 8) (v := .int y20) (C := RX8) (T := TX8) (N := 33) hx hb hts hiX8 hown hK hP 0 rfl rfl 8 (by decide) (hts (.fieldLink RX8 75 "GreenJarsModel" "readJars" "I") (by decide +kernel)) (fun _ h9 => h9) rfl dX8_sale_19 ?_
    refine va_put (D := (dC, dI)) (ci := 8) (v := .int y20) (ty := .int) (C := RX8) (T := TX8) (N := 33) hx hb hts hiX8 tyX8 tyX8_ok nmX8 hown hK hP hD hS 0 rfl rfl 4 (by decide) (hts (.fieldLink RX8 60 "GreenJarsModel" "jars" "I") (by decide +kernel)) (fun _ h9 => h9) rfl (by decide +kernel) rfl rfl (Nat.le_of_ble_eq_true rfl) dX8_sale_22 (fun H locs hP hD hS => ?_)
    have hP : va_P (dC, dI) vwCl (w_X8_sale cI cZ cG o o_text o_kind o_size o_readJar o_page o_trial o_book o_kept o_isKept o_tastedFrom o_tastedTo o_order o_spots o_gains o_value (0 : Int32) v_textSize y18 y20 y19 y20 v_acts v_tasted v_seed v_some v_rowMany v_rowWay v_stuffWhich v_stuffNear v_keptMany v_keptFirst v_restMany v_restFirst f_text f_kind f_size y21 f_page f_isKept) H := hP
    have hD : va_D A (w_X8_sale cI cZ cG o o_text o_kind o_size o_readJar o_page o_trial o_book o_kept o_isKept o_tastedFrom o_tastedTo o_order o_spots o_gains o_value (0 : Int32) v_textSize y18 y20 y19 y20 v_acts v_tasted v_seed v_some v_rowMany v_rowWay v_stuffWhich v_stuffNear v_keptMany v_keptFirst v_restMany v_restFirst f_text f_kind f_size y21 f_page f_isKept) := hD
    refine lv_iconst (v := (0 : Int32)) hx hb dX8_sale_25 (by decide) ?_
    refine lv_istore_n (lv' := [(1, .int (0 : Int32)), (0, .ref o)]) hx hb dX8_sale_26 rfl hl (by decide) rfl (fun ls hl => ?_)
    exact L27 N (0 : Int32) (0 : Int32) y18 y20 y19 y20 v_acts f_kind f_size y21 f_page f_isKept H locs ls hf (lv_sub hl [1, 0] rfl) hP hD hS
  · have hf := g_neg c23 hf
    refine lv_bipush (v := (-3 : Int32)) hx hb dX8_sale_14 (by decide +kernel) ?_
    rw [hQ]
    cases hf
    exact W.iret hx hb hr (fun t ht hW => ⟨⟨_, (), rfl, rfl, by rw [ht]; exact hP, va_K.moved hW.alike hK, hD⟩, hS.F ht⟩) hS.2.2 dX8_sale_16
abbrev rm_X8_isWhole : Room := { frames := 0, cells := 0, slots := 0, locals := 0 }
abbrev w_X8_isWhole (cI cZ cG : ClassId) (q0 : Nat) (f_q0 : Nat → Int32) : va_W := [(q0, .inl (cI, 37, .inl f_q0))]
set_option maxHeartbeats 4000000 in
set_option maxRecDepth 100000 in
theorem c_X8_isWhole (l : Launch) (dC : Nat → ClassId) (dI : Nat → Nat → Nat) (cI cZ cG : ClassId) (q0 : Nat) (f_q0 : Nat → Int32) (a1 : Int32) {r0 : Int32} (hf : x8_isWhole f_q0 a1 = some r0) : Met l yX8_isWhole wsX8_isWhole rm_X8_isWhole (va_Pc [.ref q0, .int a1] (gR (dC, dI) vwCl (gT cI cZ cG) (w_X8_isWhole cI cZ cG q0 f_q0))) (vp_Si (fun r => r = r0)) 0 0 (fun _ => False) := by
  refine Met.ofW (cc := cX8_isWhole) (maxL := 2) (ret := (some .boolean)) (by decide) rfl ?_
  intro p e s m args below meth c s₁ B hml hv
  obtain ⟨rfl, hv⟩ := hv
  obtain ⟨hP, hK, hN⟩ := hv
  have hx := B.exec
  have hb := B.bytes
  have hr := B.returns
  have hts := atoms_spec (ws := wsX8_isWhole) B.pre
  have hown : s.vm.findClass RX8 = some m.cls := findClass_of_methodNamed B.named
  have hlocks := B.notSynchronized
  obtain ⟨Q, hQ⟩ : ∃ Q : State → Prop, Q = MQ below (vp_Si (fun r => r = r0)) (([Value.ref q0, Value.int a1] : List Value).toArray) s 0 0 (fun _ => False) := ⟨_, rfl⟩
  have hl := lv_entry ([.ref q0, .int a1]) (n := 2) (Nat.le_of_ble_eq_true rfl)
  rw [← hQ, lg_entry_eq]
  generalize (lg_sl ([.ref q0, .int a1]) ++ List.replicate (2 - (lg_sl ([.ref q0, .int a1])).length) Slot.unset).toArray = ls at hl ⊢
  have hl : lv_has ls 2 [(0, .ref q0), (1, .int a1)] := hl
  show W p l e rm_X8_isWhole s m (([Value.ref q0, Value.int a1] : List Value).toArray) below meth c s.heap [] 0 0 Q (F0 m 0 ls [])
  unfold x8_isWhole at hf
  refine lv_aload_n hx hb dX8_isWhole_0 rfl (lv_at hl 0 rfl) ?_
  refine lv_bipush (v := (30 : Int32)) hx hb dX8_isWhole_1 (by decide +kernel) ?_
  refine lv_iload_n hx hb dX8_isWhole_3 rfl (lv_at hl 1 rfl) ?_
  refine lv_iadd hx hb dX8_isWhole_4 ?_
  obtain ⟨h1, hf⟩ := g_chk hf
  refine va_iald hx hb hK hP 0 0 rfl rfl (gIn_vp h1) dX8_isWhole_5 ?_
  refine lv_if_ne (tgt := 13) hx hb dX8_isWhole_6 (by decide) (fun c2 => ?_) (fun c2 => ?_)
  · have hf := g_neg c2 hf
    refine lv_iconst (v := (0 : Int32)) hx hb dX8_isWhole_13 (by decide) ?_
    rw [hQ]
    exact W.zret (v := (0 : Int32)) hx hb hr (by decide +kernel) (fun t ht hW => ⟨_, rfl, Option.some.inj hf, ht⟩) (fun q h => by cases h) dX8_isWhole_14
  · have hf := g_pos c2 hf
    refine lv_iconst (v := (1 : Int32)) hx hb dX8_isWhole_9 (by decide) ?_
    refine lv_goto (tgt := 14) hx hb dX8_isWhole_10 (by decide) ?_
    rw [hQ]
    exact W.zret (v := (1 : Int32)) hx hb hr (by decide +kernel) (fun t ht hW => ⟨_, rfl, Option.some.inj hf, ht⟩) (fun q h => by cases h) dX8_isWhole_14
abbrev rm_X8_soaked : Room := { frames := 0, cells := 0, slots := 0, locals := 0 }
abbrev w_X8_soaked (cI cZ cG : ClassId) : va_W := []
set_option maxHeartbeats 4000000 in
set_option maxRecDepth 100000 in
theorem c_X8_soaked (l : Launch) (dC : Nat → ClassId) (dI : Nat → Nat → Nat) (cI cZ cG : ClassId) (a0 : Int32) (a1 : Int32) {r0 : Int32} (hf : x8_soaked a0 a1 = some r0) : Met l yX8_soaked wsX8_soaked rm_X8_soaked (va_Pc [.int a0, .int a1] (gR (dC, dI) vwCl (gT cI cZ cG) (w_X8_soaked cI cZ cG))) (vp_Si (fun r => r = r0)) 0 0 (fun _ => False) := by
  refine Met.ofW (cc := cX8_soaked) (maxL := 2) (ret := (some .int)) (by decide) rfl ?_
  intro p e s m args below meth c s₁ B hml hv
  obtain ⟨rfl, hv⟩ := hv
  obtain ⟨hP, hK, hN⟩ := hv
  have hx := B.exec
  have hb := B.bytes
  have hr := B.returns
  have hts := atoms_spec (ws := wsX8_soaked) B.pre
  have hown : s.vm.findClass RX8 = some m.cls := findClass_of_methodNamed B.named
  have hlocks := B.notSynchronized
  obtain ⟨Q, hQ⟩ : ∃ Q : State → Prop, Q = MQ below (vp_Si (fun r => r = r0)) (([Value.int a0, Value.int a1] : List Value).toArray) s 0 0 (fun _ => False) := ⟨_, rfl⟩
  have hl := lv_entry ([.int a0, .int a1]) (n := 2) (Nat.le_of_ble_eq_true rfl)
  rw [← hQ, lg_entry_eq]
  generalize (lg_sl ([.int a0, .int a1]) ++ List.replicate (2 - (lg_sl ([.int a0, .int a1])).length) Slot.unset).toArray = ls at hl ⊢
  have hl : lv_has ls 2 [(0, .int a0), (1, .int a1)] := hl
  show W p l e rm_X8_soaked s m (([Value.int a0, Value.int a1] : List Value).toArray) below meth c s.heap [] 0 0 Q (F0 m 0 ls [])
  unfold x8_soaked at hf
  refine lv_iload_n hx hb dX8_soaked_0 rfl (lv_at hl 1 rfl) ?_
  by_cases c1 : a1 = (0 : Int32)
  · have hf := g_pos c1 hf
    refine lv_tableIn (tgt := 28) hx hb dX8_soaked_1 (by rw [c1]; decide) (by rw [c1]; decide) (by rw [c1]; rfl) (by decide) ?_
    refine lv_iload_n hx hb dX8_soaked_28 rfl (lv_at hl 0 rfl) ?_
    refine lv_bipush (v := (9 : Int32)) hx hb dX8_soaked_29 (by decide +kernel) ?_
    refine lv_icmp_ne (tgt := 39) hx hb dX8_soaked_31 (by decide) (fun c2 => ?_) (fun c2 => ?_)
    · have hf := g_neg c2 hf
      refine lv_iload_n hx hb dX8_soaked_39 rfl (lv_at hl 0 rfl) ?_
      refine lv_iconst (v := (1 : Int32)) hx hb dX8_soaked_40 (by decide) ?_
      refine lv_iadd hx hb dX8_soaked_41 ?_
      rw [hQ]
      exact W.iret (v := (a0 + (1 : Int32))) hx hb hr (fun t ht hW => ⟨_, rfl, Option.some.inj hf, ht⟩) (fun q h => by cases h) dX8_soaked_42
    · have hf := g_pos c2 hf
      refine lv_bipush (v := (9 : Int32)) hx hb dX8_soaked_34 (by decide +kernel) ?_
      refine lv_goto (tgt := 42) hx hb dX8_soaked_36 (by decide) ?_
      rw [hQ]
      exact W.iret (v := (9 : Int32)) hx hb hr (fun t ht hW => ⟨_, rfl, Option.some.inj hf, ht⟩) (fun q h => by cases h) dX8_soaked_42
  have hf := g_neg c1 hf
  by_cases c3 : a1 = (1 : Int32)
  · have hf := g_pos c3 hf
    refine lv_tableIn (tgt := 43) hx hb dX8_soaked_1 (by rw [c3]; decide) (by rw [c3]; decide) (by rw [c3]; rfl) (by decide) ?_
    refine lv_iload_n hx hb dX8_soaked_43 rfl (lv_at hl 0 rfl) ?_
    refine lv_if_ne (tgt := 51) hx hb dX8_soaked_44 (by decide) (fun c4 => ?_) (fun c4 => ?_)
    · have hf := g_neg c4 hf
      refine lv_iload_n hx hb dX8_soaked_51 rfl (lv_at hl 0 rfl) ?_
      refine lv_iconst (v := (1 : Int32)) hx hb dX8_soaked_52 (by decide) ?_
      refine lv_isub hx hb dX8_soaked_53 ?_
      rw [hQ]
      exact W.iret (v := (a0 - (1 : Int32))) hx hb hr (fun t ht hW => ⟨_, rfl, Option.some.inj hf, ht⟩) (fun q h => by cases h) dX8_soaked_54
    · have hf := g_pos c4 hf
      refine lv_iconst (v := (0 : Int32)) hx hb dX8_soaked_47 (by decide) ?_
      refine lv_goto (tgt := 54) hx hb dX8_soaked_48 (by decide) ?_
      rw [hQ]
      exact W.iret (v := (0 : Int32)) hx hb hr (fun t ht hW => ⟨_, rfl, Option.some.inj hf, ht⟩) (fun q h => by cases h) dX8_soaked_54
  have hf := g_neg c3 hf
  by_cases c5 : a1 = (2 : Int32)
  · have hf := g_pos c5 hf
    refine lv_tableIn (tgt := 55) hx hb dX8_soaked_1 (by rw [c5]; decide) (by rw [c5]; decide) (by rw [c5]; rfl) (by decide) ?_
    refine lv_iload_n hx hb dX8_soaked_55 rfl (lv_at hl 0 rfl) ?_
    refine lv_iconst (v := (5 : Int32)) hx hb dX8_soaked_56 (by decide) ?_
    refine lv_icmp_ge (tgt := 66) hx hb dX8_soaked_57 (by decide) (fun c6 => ?_) (fun c6 => ?_)
    · have hf := g_pos c6 hf
      refine lv_iload_n hx hb dX8_soaked_66 rfl (lv_at hl 0 rfl) ?_
      refine lv_iconst (v := (5 : Int32)) hx hb dX8_soaked_67 (by decide) ?_
      refine lv_icmp_le (tgt := 77) hx hb dX8_soaked_68 (by decide) (fun c7 => ?_) (fun c7 => ?_)
      · have hf := g_pos c7 hf
        refine lv_iconst (v := (5 : Int32)) hx hb dX8_soaked_77 (by decide) ?_
        rw [hQ]
        exact W.iret (v := (5 : Int32)) hx hb hr (fun t ht hW => ⟨_, rfl, Option.some.inj hf, ht⟩) (fun q h => by cases h) dX8_soaked_78
      · have hf := g_neg c7 hf
        refine lv_iload_n hx hb dX8_soaked_71 rfl (lv_at hl 0 rfl) ?_
        refine lv_iconst (v := (1 : Int32)) hx hb dX8_soaked_72 (by decide) ?_
        refine lv_isub hx hb dX8_soaked_73 ?_
        refine lv_goto (tgt := 78) hx hb dX8_soaked_74 (by decide) ?_
        rw [hQ]
        exact W.iret (v := (a0 - (1 : Int32))) hx hb hr (fun t ht hW => ⟨_, rfl, Option.some.inj hf, ht⟩) (fun q h => by cases h) dX8_soaked_78
    · have hf := g_neg c6 hf
      refine lv_iload_n hx hb dX8_soaked_60 rfl (lv_at hl 0 rfl) ?_
      refine lv_iconst (v := (1 : Int32)) hx hb dX8_soaked_61 (by decide) ?_
      refine lv_iadd hx hb dX8_soaked_62 ?_
      refine lv_goto (tgt := 78) hx hb dX8_soaked_63 (by decide) ?_
      rw [hQ]
      exact W.iret (v := (a0 + (1 : Int32))) hx hb hr (fun t ht hW => ⟨_, rfl, Option.some.inj hf, ht⟩) (fun q h => by cases h) dX8_soaked_78
  have hf := g_neg c5 hf
  have h8 := lv_neT (a := 0) c1 (by decide)
  have h9 := lv_neT (a := 1) c3 (by decide)
  have h10 := lv_neT (a := 2) c5 (by decide)
  refine lv_tableOut (tgt := 79) hx hb dX8_soaked_1 (by omega) (by decide) ?_
  refine lv_iload_n hx hb dX8_soaked_79 rfl (lv_at hl 0 rfl) ?_
  rw [hQ]
  exact W.iret (v := a0) hx hb hr (fun t ht hW => ⟨_, rfl, Option.some.inj hf, ht⟩) (fun q h => by cases h) dX8_soaked_80
abbrev rm_X8_goWeek : Room := { frames := 1, cells := 0, slots := 0, locals := 21 }
abbrev w_X8_goWeek (cI cZ cG : ClassId) (o : Nat) (o_text : Nat) (o_kind : Nat) (o_size : Nat) (o_readJar : Nat) (o_page : Nat) (o_trial : Nat) (o_book : Nat) (o_kept : Nat) (o_isKept : Nat) (o_tastedFrom : Nat) (o_tastedTo : Nat) (o_order : Nat) (o_spots : Nat) (o_gains : Nat) (o_value : Nat) (q1 : Nat) (v_thrown : Int32) (v_textSize : Int32) (v_place : Int32) (v_jars : Int32) (v_readPlaces : Int32) (v_readJars : Int32) (v_acts : Int32) (v_tasted : Int32) (v_seed : Int64) (v_some : Int32) (v_rowMany : Int32) (v_rowWay : Int32) (v_stuffWhich : Int32) (v_stuffNear : Int32) (v_keptMany : Int32) (v_keptFirst : Int32) (v_restMany : Int32) (v_restFirst : Int32) (f_kind : Nat → Int32) (f_q1 : Nat → Int32) : va_W := [(o, .inr (8, [.int v_thrown, .ref o_text, .int v_textSize, .int v_place, .int v_jars, .ref o_kind, .ref o_size, .int v_readPlaces, .int v_readJars, .ref o_readJar, .ref o_page, .ref o_trial, .ref o_book, .int v_acts, .ref o_kept, .ref o_isKept, .int v_tasted, .ref o_tastedFrom, .ref o_tastedTo, .long v_seed, .int v_some, .ref o_order, .ref o_spots, .int v_rowMany, .int v_rowWay, .int v_stuffWhich, .int v_stuffNear, .int v_keptMany, .int v_keptFirst, .int v_restMany, .int v_restFirst, .ref o_gains, .ref o_value])), (o_kind, .inl (cI, 6, .inl f_kind)), (q1, .inl (cI, 37, .inl f_q1))]
set_option maxHeartbeats 4000000 in
set_option maxRecDepth 100000 in
theorem c_X8_goWeek (l : Launch) (dC : Nat → ClassId) (dI : Nat → Nat → Nat) (cI cZ cG : ClassId) {N : Nat} (o : Nat) (o_text : Nat) (o_kind : Nat) (o_size : Nat) (o_readJar : Nat) (o_page : Nat) (o_trial : Nat) (o_book : Nat) (o_kept : Nat) (o_isKept : Nat) (o_tastedFrom : Nat) (o_tastedTo : Nat) (o_order : Nat) (o_spots : Nat) (o_gains : Nat) (o_value : Nat) (q1 : Nat) (sz : Nat) (v_thrown : Int32) (v_textSize : Int32) (v_place : Int32) (v_jars : Int32) (v_readPlaces : Int32) (v_readJars : Int32) (v_acts : Int32) (v_tasted : Int32) (v_seed : Int64) (v_some : Int32) (v_rowMany : Int32) (v_rowWay : Int32) (v_stuffWhich : Int32) (v_stuffNear : Int32) (v_keptMany : Int32) (v_keptFirst : Int32) (v_restMany : Int32) (v_restFirst : Int32) (f_kind : Nat → Int32) (f_q1 : Nat → Int32) {n_q1 : Nat → Int32} (hf : x8_goWeek N v_jars f_kind f_q1 = some n_q1) : Met l yX8_goWeek wsX8_goWeek rm_X8_goWeek (va_Pc [.ref o, .ref q1] (gW (dC, dI) vwCl (gT cI cZ cG) (w_X8_goWeek cI cZ cG o o_text o_kind o_size o_readJar o_page o_trial o_book o_kept o_isKept o_tastedFrom o_tastedTo o_order o_spots o_gains o_value q1 v_thrown v_textSize v_place v_jars v_readPlaces v_readJars v_acts v_tasted v_seed v_some v_rowMany v_rowWay v_stuffWhich v_stuffNear v_keptMany v_keptFirst v_restMany v_restFirst f_kind f_q1) sz)) (va_Qv (fun _ => True) (gE (dC, dI) vwCl (gT cI cZ cG) (w_X8_goWeek cI cZ cG o o_text o_kind o_size o_readJar o_page o_trial o_book o_kept o_isKept o_tastedFrom o_tastedTo o_order o_spots o_gains o_value q1 v_thrown v_textSize v_place v_jars v_readPlaces v_readJars v_acts v_tasted v_seed v_some v_rowMany v_rowWay v_stuffWhich v_stuffNear v_keptMany v_keptFirst v_restMany v_restFirst f_kind n_q1) (va_A (w_X8_goWeek cI cZ cG o o_text o_kind o_size o_readJar o_page o_trial o_book o_kept o_isKept o_tastedFrom o_tastedTo o_order o_spots o_gains o_value q1 v_thrown v_textSize v_place v_jars v_readPlaces v_readJars v_acts v_tasted v_seed v_some v_rowMany v_rowWay v_stuffWhich v_stuffNear v_keptMany v_keptFirst v_restMany v_restFirst f_kind f_q1) sz)) (va_A (w_X8_goWeek cI cZ cG o o_text o_kind o_size o_readJar o_page o_trial o_book o_kept o_isKept o_tastedFrom o_tastedTo o_order o_spots o_gains o_value q1 v_thrown v_textSize v_place v_jars v_readPlaces v_readJars v_acts v_tasted v_seed v_some v_rowMany v_rowWay v_stuffWhich v_stuffNear v_keptMany v_keptFirst v_restMany v_restFirst f_kind f_q1) sz)) 0 0 (va_A (w_X8_goWeek cI cZ cG o o_text o_kind o_size o_readJar o_page o_trial o_book o_kept o_isKept o_tastedFrom o_tastedTo o_order o_spots o_gains o_value q1 v_thrown v_textSize v_place v_jars v_readPlaces v_readJars v_acts v_tasted v_seed v_some v_rowMany v_rowWay v_stuffWhich v_stuffNear v_keptMany v_keptFirst v_restMany v_restFirst f_kind f_q1) sz) := by
  refine Met.ofW (cc := cX8_goWeek) (maxL := 4) (ret := none) (by decide) rfl ?_
  intro p e s m args below meth c s₁ B hml hv
  obtain ⟨rfl, hv⟩ := hv
  obtain ⟨hsz, hP, hK, hN, hD0⟩ := hv
  have hx := B.exec
  have hb := B.bytes
  have hr := B.returns
  have hts := atoms_spec (ws := wsX8_goWeek) B.pre
  have hown : s.vm.findClass RX8 = some m.cls := findClass_of_methodNamed B.named
  have hlocks := B.notSynchronized
  have hiX8 : ∀ w ∈ u_ws RX8 TX8 33, w ∈ wsX8_goWeek := fun w h => List.mem_cons_of_mem _ (List.mem_append_right _ h)
  subst hsz
  have hD := hD0.self (sz := s.heap.size)
  generalize hAe : va_A (w_X8_goWeek cI cZ cG o o_text o_kind o_size o_readJar o_page o_trial o_book o_kept o_isKept o_tastedFrom o_tastedTo o_order o_spots o_gains o_value q1 v_thrown v_textSize v_place v_jars v_readPlaces v_readJars v_acts v_tasted v_seed v_some v_rowMany v_rowWay v_stuffWhich v_stuffNear v_keptMany v_keptFirst v_restMany v_restFirst f_kind f_q1) s.heap.size = A at hD ⊢
  have hA : ∀ q : Nat, s.heap.size ≤ q → A q := fun q h => by rw [← hAe]; exact Or.inr h
  clear hD0
  have hS : va_S A s.heap s.heap [] := va_S.rf
  have hP : va_P (dC, dI) vwCl (w_X8_goWeek cI cZ cG o o_text o_kind o_size o_readJar o_page o_trial o_book o_kept o_isKept o_tastedFrom o_tastedTo o_order o_spots o_gains o_value q1 v_thrown v_textSize v_place v_jars v_readPlaces v_readJars v_acts v_tasted v_seed v_some v_rowMany v_rowWay v_stuffWhich v_stuffNear v_keptMany v_keptFirst v_restMany v_restFirst f_kind f_q1) s.heap := hP
  obtain ⟨Q, hQ⟩ : ∃ Q : State → Prop, Q = MQ below (va_Qv (fun _ => True) (gE (dC, dI) vwCl (gT cI cZ cG) (w_X8_goWeek cI cZ cG o o_text o_kind o_size o_readJar o_page o_trial o_book o_kept o_isKept o_tastedFrom o_tastedTo o_order o_spots o_gains o_value q1 v_thrown v_textSize v_place v_jars v_readPlaces v_readJars v_acts v_tasted v_seed v_some v_rowMany v_rowWay v_stuffWhich v_stuffNear v_keptMany v_keptFirst v_restMany v_restFirst f_kind n_q1) A) A) (([Value.ref o, Value.ref q1] : List Value).toArray) s 0 0 A := ⟨_, rfl⟩
  have hl := lv_entry ([.ref o, .ref q1]) (n := 4) (Nat.le_of_ble_eq_true rfl)
  rw [← hQ, lg_entry_eq]
  generalize (lg_sl ([.ref o, .ref q1]) ++ List.replicate (4 - (lg_sl ([.ref o, .ref q1])).length) Slot.unset).toArray = ls at hl ⊢
  have hl : lv_has ls 4 [(0, .ref o), (1, .ref q1)] := hl
  generalize hH : s.heap = H at hP hS ⊢
  have hS : va_S A s.heap H [] := by rw [hH]; exact hS
  generalize hlc : ([] : List Loc) = locs at hS ⊢
  show W p l e rm_X8_goWeek s m (([Value.ref o, Value.ref q1] : List Value).toArray) below meth c H locs 0 0 Q (F0 m 0 ls [])
  have L17 : ∀ (n17 : Nat), ∀ (x2 : Int32) (x3 : Int32) (y_q1 : Nat → Int32) (H : Heap) (locs : List Loc) (ls : Array Slot), x8_goWeek_b17 N v_jars f_kind n17 x2 x3 y_q1 = some n_q1 → lv_has ls 4 [(0, .ref o), (1, .ref q1), (2, .int x2), (3, .int x3)] → va_P (dC, dI) vwCl (w_X8_goWeek cI cZ cG o o_text o_kind o_size o_readJar o_page o_trial o_book o_kept o_isKept o_tastedFrom o_tastedTo o_order o_spots o_gains o_value q1 v_thrown v_textSize v_place v_jars v_readPlaces v_readJars v_acts v_tasted v_seed v_some v_rowMany v_rowWay v_stuffWhich v_stuffNear v_keptMany v_keptFirst v_restMany v_restFirst f_kind y_q1) H → va_D A (w_X8_goWeek cI cZ cG o o_text o_kind o_size o_readJar o_page o_trial o_book o_kept o_isKept o_tastedFrom o_tastedTo o_order o_spots o_gains o_value q1 v_thrown v_textSize v_place v_jars v_readPlaces v_readJars v_acts v_tasted v_seed v_some v_rowMany v_rowWay v_stuffWhich v_stuffNear v_keptMany v_keptFirst v_restMany v_restFirst f_kind y_q1) → va_S A s.heap H locs → W p l e rm_X8_goWeek s m (([Value.ref o, Value.ref q1] : List Value).toArray) below meth c H locs 0 0 Q (F0 m 17 ls []) := by
    intro n17
    induction n17 with
    | zero =>
      intro x2 x3 y_q1 H locs ls hf hl hP hD hS
      exact g_no hf
    | succ n17 ih17 =>
      have J150 : ∀ (x2 : Int32) (x3 : Int32) (t1 : Int32) (t2 : Int32) (y_q1 : Nat → Int32) (H : Heap) (locs : List Loc) (ls : Array Slot), x8_goWeek_b150 N v_jars f_kind (x8_goWeek_b17 N v_jars f_kind n17) x2 x3 t1 t2 y_q1 = some n_q1 → lv_has ls 4 [(0, .ref o), (1, .ref q1), (2, .int x2), (3, .int x3)] → va_P (dC, dI) vwCl (w_X8_goWeek cI cZ cG o o_text o_kind o_size o_readJar o_page o_trial o_book o_kept o_isKept o_tastedFrom o_tastedTo o_order o_spots o_gains o_value q1 v_thrown v_textSize v_place v_jars v_readPlaces v_readJars v_acts v_tasted v_seed v_some v_rowMany v_rowWay v_stuffWhich v_stuffNear v_keptMany v_keptFirst v_restMany v_restFirst f_kind y_q1) H → va_D A (w_X8_goWeek cI cZ cG o o_text o_kind o_size o_readJar o_page o_trial o_book o_kept o_isKept o_tastedFrom o_tastedTo o_order o_spots o_gains o_value q1 v_thrown v_textSize v_place v_jars v_readPlaces v_readJars v_acts v_tasted v_seed v_some v_rowMany v_rowWay v_stuffWhich v_stuffNear v_keptMany v_keptFirst v_restMany v_restFirst f_kind y_q1) → va_S A s.heap H locs → W p l e rm_X8_goWeek s m (([Value.ref o, Value.ref q1] : List Value).toArray) below meth c H locs 0 0 Q (F0 m 150 ls [.int t2, .int t1, .ref q1]) := by
        intro x2 x3 t1 t2 y_q1 H locs ls hf hl hP hD hS
        unfold x8_goWeek_b150 at hf
        obtain ⟨h1, hf⟩ := g_chk hf
        refine va_iast hx hb hK hP hD hS 2 0 rfl rfl (gIn_vp h1) dX8_goWeek_150 (fun H locs hP hD hS => ?_)
        have hP : va_P (dC, dI) vwCl (w_X8_goWeek cI cZ cG o o_text o_kind o_size o_readJar o_page o_trial o_book o_kept o_isKept o_tastedFrom o_tastedTo o_order o_spots o_gains o_value q1 v_thrown v_textSize v_place v_jars v_readPlaces v_readJars v_acts v_tasted v_seed v_some v_rowMany v_rowWay v_stuffWhich v_stuffNear v_keptMany v_keptFirst v_restMany v_restFirst f_kind (upd y_q1 t1.toNatClampNeg t2)) H := hP
        have hD : va_D A (w_X8_goWeek cI cZ cG o o_text o_kind o_size o_readJar o_page o_trial o_book o_kept o_isKept o_tastedFrom o_tastedTo o_order o_spots o_gains o_value q1 v_thrown v_textSize v_place v_jars v_readPlaces v_readJars v_acts v_tasted v_seed v_some v_rowMany v_rowWay v_stuffWhich v_stuffNear v_keptMany v_keptFirst v_restMany v_restFirst f_kind (upd y_q1 t1.toNatClampNeg t2)) := hD
        refine lv_iinc (v := (x3 + (1 : Int32))) (lv' := [(3, .int (x3 + (1 : Int32))), (0, .ref o), (1, .ref q1), (2, .int x2)]) hx hb dX8_goWeek_151 hl (k := 3) rfl rfl (by decide) rfl (fun ls hl => ?_)
        refine lv_goto (tgt := 17) hx hb dX8_goWeek_154 (by decide) ?_
        exact ih17 x2 (x3 + (1 : Int32)) (upd y_q1 t1.toNatClampNeg t2) H locs ls hf (lv_sub hl [1, 2, 3, 0] rfl) hP hD hS
      have J114 : ∀ (x2 : Int32) (x3 : Int32) (t1 : Int32) (t2 : Int32) (t3 : Int32) (y_q1 : Nat → Int32) (H : Heap) (locs : List Loc) (ls : Array Slot), x8_goWeek_b114 N v_jars f_kind (x8_goWeek_b17 N v_jars f_kind n17) x2 x3 t1 t2 t3 y_q1 = some n_q1 → lv_has ls 4 [(0, .ref o), (1, .ref q1), (2, .int x2), (3, .int x3)] → va_P (dC, dI) vwCl (w_X8_goWeek cI cZ cG o o_text o_kind o_size o_readJar o_page o_trial o_book o_kept o_isKept o_tastedFrom o_tastedTo o_order o_spots o_gains o_value q1 v_thrown v_textSize v_place v_jars v_readPlaces v_readJars v_acts v_tasted v_seed v_some v_rowMany v_rowWay v_stuffWhich v_stuffNear v_keptMany v_keptFirst v_restMany v_restFirst f_kind y_q1) H → va_D A (w_X8_goWeek cI cZ cG o o_text o_kind o_size o_readJar o_page o_trial o_book o_kept o_isKept o_tastedFrom o_tastedTo o_order o_spots o_gains o_value q1 v_thrown v_textSize v_place v_jars v_readPlaces v_readJars v_acts v_tasted v_seed v_some v_rowMany v_rowWay v_stuffWhich v_stuffNear v_keptMany v_keptFirst v_restMany v_restFirst f_kind y_q1) → va_S A s.heap H locs → W p l e rm_X8_goWeek s m (([Value.ref o, Value.ref q1] : List Value).toArray) below meth c H locs 0 0 Q (F0 m 114 ls [.int t3, .int t2, .int t1, .ref q1]) := by
        intro x2 x3 t1 t2 t3 y_q1 H locs ls hf hl hP hD hS
        unfold x8_goWeek_b114 at hf
        refine lv_iadd hx hb dX8_goWeek_114 ?_
        obtain ⟨h2, hf⟩ := g_chk hf
        refine va_iast hx hb hK hP hD hS 2 0 rfl rfl (gIn_vp h2) dX8_goWeek_115 (fun H locs hP hD hS => ?_)
        have hP : va_P (dC, dI) vwCl (w_X8_goWeek cI cZ cG o o_text o_kind o_size o_readJar o_page o_trial o_book o_kept o_isKept o_tastedFrom o_tastedTo o_order o_spots o_gains o_value q1 v_thrown v_textSize v_place v_jars v_readPlaces v_readJars v_acts v_tasted v_seed v_some v_rowMany v_rowWay v_stuffWhich v_stuffNear v_keptMany v_keptFirst v_restMany v_restFirst f_kind (upd y_q1 t1.toNatClampNeg (t2 + t3))) H := hP
        have hD : va_D A (w_X8_goWeek cI cZ cG o o_text o_kind o_size o_readJar o_page o_trial o_book o_kept o_isKept o_tastedFrom o_tastedTo o_order o_spots o_gains o_value q1 v_thrown v_textSize v_place v_jars v_readPlaces v_readJars v_acts v_tasted v_seed v_some v_rowMany v_rowWay v_stuffWhich v_stuffNear v_keptMany v_keptFirst v_restMany v_restFirst f_kind (upd y_q1 t1.toNatClampNeg (t2 + t3))) := hD
        refine lv_aload_n hx hb dX8_goWeek_116 rfl (lv_at hl 1 rfl) ?_
        refine lv_bipush (v := (24 : Int32)) hx hb dX8_goWeek_117 (by decide +kernel) ?_
        refine lv_iload_n hx hb dX8_goWeek_119 rfl (lv_at hl 3 rfl) ?_
        refine lv_iadd hx hb dX8_goWeek_120 ?_
        refine lv_aload_n hx hb dX8_goWeek_121 rfl (lv_at hl 0 rfl) ?_
        refine va_get (D := (dC, dI)) (ci := 8) (v := .ref o_kind) (C := RX8) (T := TX8) (N := 33) hx hb hts hiX8 hown hK hP 0 rfl rfl 5 (by decide) (hts (.fieldLink RX8 13 "GreenJarsModel" "kind" "[I") (by decide +kernel)) (fun _ h9 => h9) rfl dX8_goWeek_122 ?_
        refine lv_iload_n hx hb dX8_goWeek_125 rfl (lv_at hl 3 rfl) ?_
        obtain ⟨h3, hf⟩ := g_chk hf
        refine va_iald hx hb hK hP 1 0 rfl rfl (gIn_vp h3) dX8_goWeek_126 ?_
        refine lv_iconst (v := (1 : Int32)) hx hb dX8_goWeek_127 (by decide) ?_
        refine lv_icmp_ne (tgt := 144) hx hb dX8_goWeek_128 (by decide) (fun c4 => ?_) (fun c4 => ?_)
        · have hf := g_neg c4 hf
          refine lv_aload_n hx hb dX8_goWeek_144 rfl (lv_at hl 1 rfl) ?_
          refine lv_bipush (v := (24 : Int32)) hx hb dX8_goWeek_145 (by decide +kernel) ?_
          refine lv_iload_n hx hb dX8_goWeek_147 rfl (lv_at hl 3 rfl) ?_
          refine lv_iadd hx hb dX8_goWeek_148 ?_
          obtain ⟨h5, hf⟩ := g_chk hf
          refine va_iald hx hb hK hP 2 0 rfl rfl (gIn_vp h5) dX8_goWeek_149 ?_
          exact J150 x2 x3 ((24 : Int32) + x3) ((upd y_q1 t1.toNatClampNeg (t2 + t3)) ((24 : Int32) + x3).toNatClampNeg) (upd y_q1 t1.toNatClampNeg (t2 + t3)) H locs ls hf (lv_sub hl [0, 1, 2, 3] rfl) hP hD hS
        · have hf := g_pos c4 hf
          refine lv_aload_n hx hb dX8_goWeek_131 rfl (lv_at hl 1 rfl) ?_
          refine lv_bipush (v := (24 : Int32)) hx hb dX8_goWeek_132 (by decide +kernel) ?_
          refine lv_iload_n hx hb dX8_goWeek_134 rfl (lv_at hl 3 rfl) ?_
          refine lv_iadd hx hb dX8_goWeek_135 ?_
          obtain ⟨h6, hf⟩ := g_chk hf
          refine va_iald hx hb hK hP 2 0 rfl rfl (gIn_vp h6) dX8_goWeek_136 ?_
          refine lv_iconst (v := (1 : Int32)) hx hb dX8_goWeek_137 (by decide) ?_
          refine lv_iadd hx hb dX8_goWeek_138 ?_
          refine lv_iconst (v := (4 : Int32)) hx hb dX8_goWeek_139 (by decide) ?_
          refine lv_irem hx hb dX8_goWeek_140 (by decide) ?_
          refine lv_goto (tgt := 150) hx hb dX8_goWeek_141 (by decide) ?_
          exact J150 x2 x3 ((24 : Int32) + x3) ((((upd y_q1 t1.toNatClampNeg (t2 + t3)) ((24 : Int32) + x3).toNatClampNeg) + (1 : Int32)) - (((upd y_q1 t1.toNatClampNeg (t2 + t3)) ((24 : Int32) + x3).toNatClampNeg) + (1 : Int32)) / (4 : Int32) * (4 : Int32)) (upd y_q1 t1.toNatClampNeg (t2 + t3)) H locs ls hf (lv_sub hl [0, 1, 2, 3] rfl) hP hD hS
      have J113 : ∀ (x2 : Int32) (x3 : Int32) (t1 : Int32) (t2 : Int32) (y_q1 : Nat → Int32) (H : Heap) (locs : List Loc) (ls : Array Slot), x8_goWeek_b113 N v_jars f_kind (x8_goWeek_b17 N v_jars f_kind n17) x2 x3 t1 t2 y_q1 = some n_q1 → lv_has ls 4 [(0, .ref o), (1, .ref q1), (2, .int x2), (3, .int x3)] → va_P (dC, dI) vwCl (w_X8_goWeek cI cZ cG o o_text o_kind o_size o_readJar o_page o_trial o_book o_kept o_isKept o_tastedFrom o_tastedTo o_order o_spots o_gains o_value q1 v_thrown v_textSize v_place v_jars v_readPlaces v_readJars v_acts v_tasted v_seed v_some v_rowMany v_rowWay v_stuffWhich v_stuffNear v_keptMany v_keptFirst v_restMany v_restFirst f_kind y_q1) H → va_D A (w_X8_goWeek cI cZ cG o o_text o_kind o_size o_readJar o_page o_trial o_book o_kept o_isKept o_tastedFrom o_tastedTo o_order o_spots o_gains o_value q1 v_thrown v_textSize v_place v_jars v_readPlaces v_readJars v_acts v_tasted v_seed v_some v_rowMany v_rowWay v_stuffWhich v_stuffNear v_keptMany v_keptFirst v_restMany v_restFirst f_kind y_q1) → va_S A s.heap H locs → W p l e rm_X8_goWeek s m (([Value.ref o, Value.ref q1] : List Value).toArray) below meth c H locs 0 0 Q (F0 m 113 ls [.int t2, .int t1, .ref q1]) := by
        intro x2 x3 t1 t2 y_q1 H locs ls hf hl hP hD hS
        unfold x8_goWeek_b113 at hf
        refine lv_iconst (v := (0 : Int32)) hx hb dX8_goWeek_113 (by decide) ?_
        exact J114 x2 x3 t1 t2 (0 : Int32) y_q1 H locs ls hf (lv_sub hl [0, 1, 2, 3] rfl) hP hD hS
      have J76 : ∀ (x2 : Int32) (x3 : Int32) (t1 : Int32) (t2 : Int32) (y_q1 : Nat → Int32) (H : Heap) (locs : List Loc) (ls : Array Slot), x8_goWeek_b76 N v_jars f_kind (x8_goWeek_b17 N v_jars f_kind n17) x2 x3 t1 t2 y_q1 = some n_q1 → lv_has ls 4 [(0, .ref o), (1, .ref q1), (2, .int x2), (3, .int x3)] → va_P (dC, dI) vwCl (w_X8_goWeek cI cZ cG o o_text o_kind o_size o_readJar o_page o_trial o_book o_kept o_isKept o_tastedFrom o_tastedTo o_order o_spots o_gains o_value q1 v_thrown v_textSize v_place v_jars v_readPlaces v_readJars v_acts v_tasted v_seed v_some v_rowMany v_rowWay v_stuffWhich v_stuffNear v_keptMany v_keptFirst v_restMany v_restFirst f_kind y_q1) H → va_D A (w_X8_goWeek cI cZ cG o o_text o_kind o_size o_readJar o_page o_trial o_book o_kept o_isKept o_tastedFrom o_tastedTo o_order o_spots o_gains o_value q1 v_thrown v_textSize v_place v_jars v_readPlaces v_readJars v_acts v_tasted v_seed v_some v_rowMany v_rowWay v_stuffWhich v_stuffNear v_keptMany v_keptFirst v_restMany v_restFirst f_kind y_q1) → va_S A s.heap H locs → W p l e rm_X8_goWeek s m (([Value.ref o, Value.ref q1] : List Value).toArray) below meth c H locs 0 0 Q (F0 m 76 ls [.int t2, .int t1, .ref q1]) := by
        intro x2 x3 t1 t2 y_q1 H locs ls hf hl hP hD hS
        unfold x8_goWeek_b76 at hf
        obtain ⟨h7, hf⟩ := g_chk hf
        refine va_iast hx hb hK hP hD hS 2 0 rfl rfl (gIn_vp h7) dX8_goWeek_76 (fun H locs hP hD hS => ?_)
        have hP : va_P (dC, dI) vwCl (w_X8_goWeek cI cZ cG o o_text o_kind o_size o_readJar o_page o_trial o_book o_kept o_isKept o_tastedFrom o_tastedTo o_order o_spots o_gains o_value q1 v_thrown v_textSize v_place v_jars v_readPlaces v_readJars v_acts v_tasted v_seed v_some v_rowMany v_rowWay v_stuffWhich v_stuffNear v_keptMany v_keptFirst v_restMany v_restFirst f_kind (upd y_q1 t1.toNatClampNeg t2)) H := hP
        have hD : va_D A (w_X8_goWeek cI cZ cG o o_text o_kind o_size o_readJar o_page o_trial o_book o_kept o_isKept o_tastedFrom o_tastedTo o_order o_spots o_gains o_value q1 v_thrown v_textSize v_place v_jars v_readPlaces v_readJars v_acts v_tasted v_seed v_some v_rowMany v_rowWay v_stuffWhich v_stuffNear v_keptMany v_keptFirst v_restMany v_restFirst f_kind (upd y_q1 t1.toNatClampNeg t2)) := hD
        refine lv_aload_n hx hb dX8_goWeek_77 rfl (lv_at hl 1 rfl) ?_
        refine lv_bipush (v := (18 : Int32)) hx hb dX8_goWeek_78 (by decide +kernel) ?_
        refine lv_iload_n hx hb dX8_goWeek_80 rfl (lv_at hl 3 rfl) ?_
        refine lv_iadd hx hb dX8_goWeek_81 ?_
        refine lv_dup2_11 hx hb dX8_goWeek_82 rfl rfl ?_
        obtain ⟨h8, hf⟩ := g_chk hf
        refine va_iald hx hb hK hP 2 0 rfl rfl (gIn_vp h8) dX8_goWeek_83 ?_
        refine lv_iload_n hx hb dX8_goWeek_84 rfl (lv_at hl 2 rfl) ?_
        refine lv_if_ne (tgt := 113) hx hb dX8_goWeek_85 (by decide) (fun c9 => ?_) (fun c9 => ?_)
        · have hf := g_neg c9 hf
          exact J113 x2 x3 ((18 : Int32) + x3) ((upd y_q1 t1.toNatClampNeg t2) ((18 : Int32) + x3).toNatClampNeg) (upd y_q1 t1.toNatClampNeg t2) H locs ls hf (lv_sub hl [0, 1, 2, 3] rfl) hP hD hS
        · have hf := g_pos c9 hf
          refine lv_aload_n hx hb dX8_goWeek_88 rfl (lv_at hl 0 rfl) ?_
          refine va_get (D := (dC, dI)) (ci := 8) (v := .ref o_kind) (C := RX8) (T := TX8) (N := 33) hx hb hts hiX8 hown hK hP 0 rfl rfl 5 (by decide) (hts (.fieldLink RX8 13 "GreenJarsModel" "kind" "[I") (by decide +kernel)) (fun _ h9 => h9) rfl dX8_goWeek_89 ?_
          refine lv_iload_n hx hb dX8_goWeek_92 rfl (lv_at hl 3 rfl) ?_
          obtain ⟨h10, hf⟩ := g_chk hf
          refine va_iald hx hb hK hP 1 0 rfl rfl (gIn_vp h10) dX8_goWeek_93 ?_
          refine lv_iconst (v := (2 : Int32)) hx hb dX8_goWeek_94 (by decide) ?_
          refine lv_icmp_eq (tgt := 113) hx hb dX8_goWeek_95 (by decide) (fun c11 => ?_) (fun c11 => ?_)
          · have hf := g_pos c11 hf
            exact J113 x2 x3 ((18 : Int32) + x3) ((upd y_q1 t1.toNatClampNeg t2) ((18 : Int32) + x3).toNatClampNeg) (upd y_q1 t1.toNatClampNeg t2) H locs ls hf (lv_sub hl [0, 1, 2, 3] rfl) hP hD hS
          · have hf := g_neg c11 hf
            refine lv_aload_n hx hb dX8_goWeek_98 rfl (lv_at hl 1 rfl) ?_
            refine lv_bipush (v := (18 : Int32)) hx hb dX8_goWeek_99 (by decide +kernel) ?_
            refine lv_iload_n hx hb dX8_goWeek_101 rfl (lv_at hl 3 rfl) ?_
            refine lv_iadd hx hb dX8_goWeek_102 ?_
            obtain ⟨h12, hf⟩ := g_chk hf
            refine va_iald hx hb hK hP 2 0 rfl rfl (gIn_vp h12) dX8_goWeek_103 ?_
            refine lv_bipush (v := (9 : Int32)) hx hb dX8_goWeek_104 (by decide +kernel) ?_
            refine lv_icmp_ge (tgt := 113) hx hb dX8_goWeek_106 (by decide) (fun c13 => ?_) (fun c13 => ?_)
            · have hf := g_pos c13 hf
              exact J113 x2 x3 ((18 : Int32) + x3) ((upd y_q1 t1.toNatClampNeg t2) ((18 : Int32) + x3).toNatClampNeg) (upd y_q1 t1.toNatClampNeg t2) H locs ls hf (lv_sub hl [0, 1, 2, 3] rfl) hP hD hS
            · have hf := g_neg c13 hf
              refine lv_iconst (v := (1 : Int32)) hx hb dX8_goWeek_109 (by decide) ?_
              refine lv_goto (tgt := 114) hx hb dX8_goWeek_110 (by decide) ?_
              exact J114 x2 x3 ((18 : Int32) + x3) ((upd y_q1 t1.toNatClampNeg t2) ((18 : Int32) + x3).toNatClampNeg) (1 : Int32) (upd y_q1 t1.toNatClampNeg t2) H locs ls hf (lv_sub hl [0, 1, 2, 3] rfl) hP hD hS
      have J61 : ∀ (x2 : Int32) (x3 : Int32) (t1 : Int32) (y_q1 : Nat → Int32) (H : Heap) (locs : List Loc) (ls : Array Slot), x8_goWeek_b61 N v_jars f_kind (x8_goWeek_b17 N v_jars f_kind n17) x2 x3 t1 y_q1 = some n_q1 → lv_has ls 4 [(0, .ref o), (1, .ref q1), (2, .int x2), (3, .int x3)] → va_P (dC, dI) vwCl (w_X8_goWeek cI cZ cG o o_text o_kind o_size o_readJar o_page o_trial o_book o_kept o_isKept o_tastedFrom o_tastedTo o_order o_spots o_gains o_value q1 v_thrown v_textSize v_place v_jars v_readPlaces v_readJars v_acts v_tasted v_seed v_some v_rowMany v_rowWay v_stuffWhich v_stuffNear v_keptMany v_keptFirst v_restMany v_restFirst f_kind y_q1) H → va_D A (w_X8_goWeek cI cZ cG o o_text o_kind o_size o_readJar o_page o_trial o_book o_kept o_isKept o_tastedFrom o_tastedTo o_order o_spots o_gains o_value q1 v_thrown v_textSize v_place v_jars v_readPlaces v_readJars v_acts v_tasted v_seed v_some v_rowMany v_rowWay v_stuffWhich v_stuffNear v_keptMany v_keptFirst v_restMany v_restFirst f_kind y_q1) → va_S A s.heap H locs → W p l e rm_X8_goWeek s m (([Value.ref o, Value.ref q1] : List Value).toArray) below meth c H locs 0 0 Q (F0 m 61 ls [.int t1, .ref q1]) := by
        intro x2 x3 t1 y_q1 H locs ls hf hl hP hD hS
        unfold x8_goWeek_b61 at hf
        refine lv_aload_n hx hb dX8_goWeek_61 rfl (lv_at hl 1 rfl) ?_
        refine lv_bipush (v := (6 : Int32)) hx hb dX8_goWeek_62 (by decide +kernel) ?_
        refine lv_iload_n hx hb dX8_goWeek_64 rfl (lv_at hl 3 rfl) ?_
        refine lv_iadd hx hb dX8_goWeek_65 ?_
        obtain ⟨h14, hf⟩ := g_chk hf
        refine va_iald hx hb hK hP 2 0 rfl rfl (gIn_vp h14) dX8_goWeek_66 ?_
        refine lv_aload_n hx hb dX8_goWeek_67 rfl (lv_at hl 1 rfl) ?_
        refine lv_bipush (v := (12 : Int32)) hx hb dX8_goWeek_68 (by decide +kernel) ?_
        refine lv_iload_n hx hb dX8_goWeek_70 rfl (lv_at hl 3 rfl) ?_
        refine lv_iadd hx hb dX8_goWeek_71 ?_
        obtain ⟨h15, hf⟩ := g_chk hf
        refine va_iald hx hb hK hP 2 0 rfl rfl (gIn_vp h15) dX8_goWeek_72 ?_
        obtain ⟨r16, hc17, hf⟩ := g_b1 hf
        refine g_rS (As := [.int (y_q1 ((6 : Int32) + x3).toNatClampNeg), .int (y_q1 ((12 : Int32) + x3).toNatClampNeg)]) (rest := [.int t1, .ref q1]) ⟨hx, hb, hml, hown, hts⟩ (c_X8_soaked l dC dI cI cZ cG    (y_q1 ((6 : Int32) + x3).toNatClampNeg) (y_q1 ((12 : Int32) + x3).toNatClampNeg) hc17) (va_cwS 2 hts gX8_goWeek_X8_soaked rfl rfl rfl (by decide +kernel) ⟨Nat.le_of_ble_eq_true rfl, Nat.le_of_ble_eq_true rfl⟩) hK hN (hP.sub [] rfl) rfl hl.1 rfl (Nat.le_of_ble_eq_true rfl) dX8_goWeek_73 ⟨Nat.zero_le _, Nat.zero_le _⟩ ?_
        exact J76 x2 x3 t1 r16 y_q1 H locs ls hf (lv_sub hl [0, 1, 2, 3] rfl) hP hD hS
      intro x2 x3 y_q1 H locs ls hf hl hP hD hS
      unfold x8_goWeek_b17 at hf
      refine lv_iload_n hx hb dX8_goWeek_17 rfl (lv_at hl 3 rfl) ?_
      refine lv_aload_n hx hb dX8_goWeek_18 rfl (lv_at hl 0 rfl) ?_
      refine va_get (D := (dC, dI)) (ci := 8) (v := .int v_jars) (C := RX8) (T := TX8) (N := 33) hx hb hts hiX8 hown hK hP 0 rfl rfl 4 (by decide) (hts (.fieldLink RX8 60 "GreenJarsModel" "jars" "I") (by decide +kernel)) (fun _ h9 => h9) rfl dX8_goWeek_19 ?_
      refine lv_icmp_ge (tgt := 157) hx hb dX8_goWeek_22 (by decide) (fun c18 => ?_) (fun c18 => ?_)
      · have hf := g_pos c18 hf
        refine lv_aload_n hx hb dX8_goWeek_157 rfl (lv_at hl 1 rfl) ?_
        refine lv_bipush (v := (36 : Int32)) hx hb dX8_goWeek_158 (by decide +kernel) ?_
        refine lv_dup2_11 hx hb dX8_goWeek_160 rfl rfl ?_
        obtain ⟨h19, hf⟩ := g_chk hf
        refine va_iald hx hb hK hP 2 0 rfl rfl (gIn_vp h19) dX8_goWeek_161 ?_
        refine lv_iconst (v := (1 : Int32)) hx hb dX8_goWeek_162 (by decide) ?_
        refine lv_iadd hx hb dX8_goWeek_163 ?_
        obtain ⟨h20, hf⟩ := g_chk hf
        refine va_iast hx hb hK hP hD hS 2 0 rfl rfl (gIn_vp h20) dX8_goWeek_164 (fun H locs hP hD hS => ?_)
        have hP : va_P (dC, dI) vwCl (w_X8_goWeek cI cZ cG o o_text o_kind o_size o_readJar o_page o_trial o_book o_kept o_isKept o_tastedFrom o_tastedTo o_order o_spots o_gains o_value q1 v_thrown v_textSize v_place v_jars v_readPlaces v_readJars v_acts v_tasted v_seed v_some v_rowMany v_rowWay v_stuffWhich v_stuffNear v_keptMany v_keptFirst v_restMany v_restFirst f_kind (upd y_q1 (36 : Int32).toNatClampNeg ((y_q1 (36 : Int32).toNatClampNeg) + (1 : Int32)))) H := hP
        have hD : va_D A (w_X8_goWeek cI cZ cG o o_text o_kind o_size o_readJar o_page o_trial o_book o_kept o_isKept o_tastedFrom o_tastedTo o_order o_spots o_gains o_value q1 v_thrown v_textSize v_place v_jars v_readPlaces v_readJars v_acts v_tasted v_seed v_some v_rowMany v_rowWay v_stuffWhich v_stuffNear v_keptMany v_keptFirst v_restMany v_restFirst f_kind (upd y_q1 (36 : Int32).toNatClampNeg ((y_q1 (36 : Int32).toNatClampNeg) + (1 : Int32)))) := hD
        rw [hQ]
        cases hf
        exact W.vret hx hb hr (fun t ht hW => ⟨⟨(), rfl, trivial, by rw [ht]; exact hP, va_K.moved hW.alike hK, hD⟩, hS.F ht⟩) hS.2.2 dX8_goWeek_165
      · have hf := g_neg c18 hf
        refine lv_aload_n hx hb dX8_goWeek_25 rfl (lv_at hl 1 rfl) ?_
        refine lv_iload_n hx hb dX8_goWeek_26 rfl (lv_at hl 3 rfl) ?_
        obtain ⟨r21, hc22, hf⟩ := g_b1 hf
        refine g_rS (As := [.ref q1, .int x3]) (rest := []) ⟨hx, hb, hml, hown, hts⟩ (c_X8_isWhole l dC dI cI cZ cG q1  y_q1 x3 hc22) (va_cwS 2 hts gX8_goWeek_X8_isWhole rfl rfl rfl (by decide +kernel) ⟨Nat.le_of_ble_eq_true rfl, Nat.le_of_ble_eq_true rfl⟩) hK hN (hP.sub [2] rfl) rfl hl.1 rfl (Nat.le_of_ble_eq_true rfl) dX8_goWeek_27 ⟨Nat.zero_le _, Nat.zero_le _⟩ ?_
        refine lv_if_eq (tgt := 151) hx hb dX8_goWeek_30 (by decide) (fun c23 => ?_) (fun c23 => ?_)
        · have hf := g_pos c23 hf
          refine lv_iinc (v := (x3 + (1 : Int32))) (lv' := [(3, .int (x3 + (1 : Int32))), (0, .ref o), (1, .ref q1), (2, .int x2)]) hx hb dX8_goWeek_151 hl (k := 3) rfl rfl (by decide) rfl (fun ls hl => ?_)
          refine lv_goto (tgt := 17) hx hb dX8_goWeek_154 (by decide) ?_
          exact ih17 x2 (x3 + (1 : Int32)) y_q1 H locs ls hf (lv_sub hl [1, 2, 3, 0] rfl) hP hD hS
        · have hf := g_neg c23 hf
          refine lv_aload_n hx hb dX8_goWeek_33 rfl (lv_at hl 1 rfl) ?_
          refine lv_bipush (v := (6 : Int32)) hx hb dX8_goWeek_34 (by decide +kernel) ?_
          refine lv_iload_n hx hb dX8_goWeek_36 rfl (lv_at hl 3 rfl) ?_
          refine lv_iadd hx hb dX8_goWeek_37 ?_
          refine lv_aload_n hx hb dX8_goWeek_38 rfl (lv_at hl 0 rfl) ?_
          refine va_get (D := (dC, dI)) (ci := 8) (v := .ref o_kind) (C := RX8) (T := TX8) (N := 33) hx hb hts hiX8 hown hK hP 0 rfl rfl 5 (by decide) (hts (.fieldLink RX8 13 "GreenJarsModel" "kind" "[I") (by decide +kernel)) (fun _ h9 => h9) rfl dX8_goWeek_39 ?_
          refine lv_iload_n hx hb dX8_goWeek_42 rfl (lv_at hl 3 rfl) ?_
          obtain ⟨h24, hf⟩ := g_chk hf
          refine va_iald hx hb hK hP 1 0 rfl rfl (gIn_vp h24) dX8_goWeek_43 ?_
          refine lv_iconst (v := (3 : Int32)) hx hb dX8_goWeek_44 (by decide) ?_
          refine lv_icmp_ne (tgt := 61) hx hb dX8_goWeek_45 (by decide) (fun c25 => ?_) (fun c25 => ?_)
          · have hf := g_neg c25 hf
            exact J61 x2 x3 ((6 : Int32) + x3) y_q1 H locs ls hf (lv_sub hl [0, 1, 2, 3] rfl) hP hD hS
          · have hf := g_pos c25 hf
            refine lv_iload_n hx hb dX8_goWeek_48 rfl (lv_at hl 2 rfl) ?_
            refine lv_if_ne (tgt := 61) hx hb dX8_goWeek_49 (by decide) (fun c26 => ?_) (fun c26 => ?_)
            · have hf := g_neg c26 hf
              exact J61 x2 x3 ((6 : Int32) + x3) y_q1 H locs ls hf (lv_sub hl [0, 1, 2, 3] rfl) hP hD hS
            · have hf := g_pos c26 hf
              refine lv_aload_n hx hb dX8_goWeek_52 rfl (lv_at hl 1 rfl) ?_
              refine lv_bipush (v := (6 : Int32)) hx hb dX8_goWeek_53 (by decide +kernel) ?_
              refine lv_iload_n hx hb dX8_goWeek_55 rfl (lv_at hl 3 rfl) ?_
              refine lv_iadd hx hb dX8_goWeek_56 ?_
              obtain ⟨h27, hf⟩ := g_chk hf
              refine va_iald hx hb hK hP 2 0 rfl rfl (gIn_vp h27) dX8_goWeek_57 ?_
              refine lv_goto (tgt := 76) hx hb dX8_goWeek_58 (by decide) ?_
              exact J76 x2 x3 ((6 : Int32) + x3) (y_q1 ((6 : Int32) + x3).toNatClampNeg) y_q1 H locs ls hf (lv_sub hl [0, 1, 2, 3] rfl) hP hD hS
  unfold x8_goWeek at hf
  refine lv_aload_n hx hb dX8_goWeek_0 rfl (lv_at hl 1 rfl) ?_
  refine lv_bipush (v := (36 : Int32)) hx hb dX8_goWeek_1 (by decide +kernel) ?_
  obtain ⟨h28, hf⟩ := g_chk hf
  refine va_iald hx hb hK hP 2 0 rfl rfl (gIn_vp h28) dX8_goWeek_3 ?_
  refine lv_iconst (v := (2 : Int32)) hx hb dX8_goWeek_4 (by decide) ?_
  refine lv_irem hx hb dX8_goWeek_5 (by decide) ?_
  refine lv_if_ne (tgt := 13) hx hb dX8_goWeek_6 (by decide) (fun c29 => ?_) (fun c29 => ?_)
  · have hf := g_neg c29 hf
    refine lv_iconst (v := (0 : Int32)) hx hb dX8_goWeek_13 (by decide) ?_
    refine lv_istore_n (lv' := [(2, .int (0 : Int32)), (0, .ref o), (1, .ref q1)]) hx hb dX8_goWeek_14 rfl hl (by decide) rfl (fun ls hl => ?_)
    refine lv_iconst (v := (0 : Int32)) hx hb dX8_goWeek_15 (by decide) ?_
    refine lv_istore_n (lv' := [(3, .int (0 : Int32)), (2, .int (0 : Int32)), (0, .ref o), (1, .ref q1)]) hx hb dX8_goWeek_16 rfl hl (by decide) rfl (fun ls hl => ?_)
    exact L17 N (0 : Int32) (0 : Int32) f_q1 H locs ls hf (lv_sub hl [2, 3, 1, 0] rfl) hP hD hS
  · have hf := g_pos c29 hf
    refine lv_iconst (v := (1 : Int32)) hx hb dX8_goWeek_9 (by decide) ?_
    refine lv_goto (tgt := 14) hx hb dX8_goWeek_10 (by decide) ?_
    refine lv_istore_n (lv' := [(2, .int (1 : Int32)), (0, .ref o), (1, .ref q1)]) hx hb dX8_goWeek_14 rfl hl (by decide) rfl (fun ls hl => ?_)
    refine lv_iconst (v := (0 : Int32)) hx hb dX8_goWeek_15 (by decide) ?_
    refine lv_istore_n (lv' := [(3, .int (0 : Int32)), (2, .int (1 : Int32)), (0, .ref o), (1, .ref q1)]) hx hb dX8_goWeek_16 rfl hl (by decide) rfl (fun ls hl => ?_)
    exact L17 N (1 : Int32) (0 : Int32) f_q1 H locs ls hf (lv_sub hl [2, 3, 1, 0] rfl) hP hD hS
abbrev rm_X8_goShake : Room := { frames := 1, cells := 0, slots := 0, locals := 21 }
abbrev w_X8_goShake (cI cZ cG : ClassId) (o : Nat) (o_text : Nat) (o_kind : Nat) (o_size : Nat) (o_readJar : Nat) (o_page : Nat) (o_trial : Nat) (o_book : Nat) (o_kept : Nat) (o_isKept : Nat) (o_tastedFrom : Nat) (o_tastedTo : Nat) (o_order : Nat) (o_spots : Nat) (o_gains : Nat) (o_value : Nat) (q1 : Nat) (v_thrown : Int32) (v_textSize : Int32) (v_place : Int32) (v_jars : Int32) (v_readPlaces : Int32) (v_readJars : Int32) (v_acts : Int32) (v_tasted : Int32) (v_seed : Int64) (v_some : Int32) (v_rowMany : Int32) (v_rowWay : Int32) (v_stuffWhich : Int32) (v_stuffNear : Int32) (v_keptMany : Int32) (v_keptFirst : Int32) (v_restMany : Int32) (v_restFirst : Int32) (f_kind : Nat → Int32) (f_size : Nat → Int32) (f_q1 : Nat → Int32) : va_W := [(o, .inr (8, [.int v_thrown, .ref o_text, .int v_textSize, .int v_place, .int v_jars, .ref o_kind, .ref o_size, .int v_readPlaces, .int v_readJars, .ref o_readJar, .ref o_page, .ref o_trial, .ref o_book, .int v_acts, .ref o_kept, .ref o_isKept, .int v_tasted, .ref o_tastedFrom, .ref o_tastedTo, .long v_seed, .int v_some, .ref o_order, .ref o_spots, .int v_rowMany, .int v_rowWay, .int v_stuffWhich, .int v_stuffNear, .int v_keptMany, .int v_keptFirst, .int v_restMany, .int v_restFirst, .ref o_gains, .ref o_value])), (o_kind, .inl (cI, 6, .inl f_kind)), (o_size, .inl (cI, 6, .inl f_size)), (q1, .inl (cI, 37, .inl f_q1))]
set_option maxHeartbeats 4000000 in
set_option maxRecDepth 100000 in
theorem c_X8_goShake (l : Launch) (dC : Nat → ClassId) (dI : Nat → Nat → Nat) (cI cZ cG : ClassId) {N : Nat} (o : Nat) (o_text : Nat) (o_kind : Nat) (o_size : Nat) (o_readJar : Nat) (o_page : Nat) (o_trial : Nat) (o_book : Nat) (o_kept : Nat) (o_isKept : Nat) (o_tastedFrom : Nat) (o_tastedTo : Nat) (o_order : Nat) (o_spots : Nat) (o_gains : Nat) (o_value : Nat) (q1 : Nat) (sz : Nat) (v_thrown : Int32) (v_textSize : Int32) (v_place : Int32) (v_jars : Int32) (v_readPlaces : Int32) (v_readJars : Int32) (v_acts : Int32) (v_tasted : Int32) (v_seed : Int64) (v_some : Int32) (v_rowMany : Int32) (v_rowWay : Int32) (v_stuffWhich : Int32) (v_stuffNear : Int32) (v_keptMany : Int32) (v_keptFirst : Int32) (v_restMany : Int32) (v_restFirst : Int32) (f_kind : Nat → Int32) (f_size : Nat → Int32) (f_q1 : Nat → Int32) {r0 : Int32} {n_q1 : Nat → Int32} (hf : x8_goShake N v_jars f_kind f_size f_q1 = some (r0, n_q1)) : Met l yX8_goShake wsX8_goShake rm_X8_goShake (va_Pc [.ref o, .ref q1] (gW (dC, dI) vwCl (gT cI cZ cG) (w_X8_goShake cI cZ cG o o_text o_kind o_size o_readJar o_page o_trial o_book o_kept o_isKept o_tastedFrom o_tastedTo o_order o_spots o_gains o_value q1 v_thrown v_textSize v_place v_jars v_readPlaces v_readJars v_acts v_tasted v_seed v_some v_rowMany v_rowWay v_stuffWhich v_stuffNear v_keptMany v_keptFirst v_restMany v_restFirst f_kind f_size f_q1) sz)) (va_Qi (fun r _ => r = r0) (gE (dC, dI) vwCl (gT cI cZ cG) (w_X8_goShake cI cZ cG o o_text o_kind o_size o_readJar o_page o_trial o_book o_kept o_isKept o_tastedFrom o_tastedTo o_order o_spots o_gains o_value q1 v_thrown v_textSize v_place v_jars v_readPlaces v_readJars v_acts v_tasted v_seed v_some v_rowMany v_rowWay v_stuffWhich v_stuffNear v_keptMany v_keptFirst v_restMany v_restFirst f_kind f_size n_q1) (va_A (w_X8_goShake cI cZ cG o o_text o_kind o_size o_readJar o_page o_trial o_book o_kept o_isKept o_tastedFrom o_tastedTo o_order o_spots o_gains o_value q1 v_thrown v_textSize v_place v_jars v_readPlaces v_readJars v_acts v_tasted v_seed v_some v_rowMany v_rowWay v_stuffWhich v_stuffNear v_keptMany v_keptFirst v_restMany v_restFirst f_kind f_size f_q1) sz)) (va_A (w_X8_goShake cI cZ cG o o_text o_kind o_size o_readJar o_page o_trial o_book o_kept o_isKept o_tastedFrom o_tastedTo o_order o_spots o_gains o_value q1 v_thrown v_textSize v_place v_jars v_readPlaces v_readJars v_acts v_tasted v_seed v_some v_rowMany v_rowWay v_stuffWhich v_stuffNear v_keptMany v_keptFirst v_restMany v_restFirst f_kind f_size f_q1) sz)) 0 0 (va_A (w_X8_goShake cI cZ cG o o_text o_kind o_size o_readJar o_page o_trial o_book o_kept o_isKept o_tastedFrom o_tastedTo o_order o_spots o_gains o_value q1 v_thrown v_textSize v_place v_jars v_readPlaces v_readJars v_acts v_tasted v_seed v_some v_rowMany v_rowWay v_stuffWhich v_stuffNear v_keptMany v_keptFirst v_restMany v_restFirst f_kind f_size f_q1) sz) := by
  refine Met.ofW (cc := cX8_goShake) (maxL := 6) (ret := (some .int)) (by decide) rfl ?_
  intro p e s m args below meth c s₁ B hml hv
  obtain ⟨rfl, hv⟩ := hv
  obtain ⟨hsz, hP, hK, hN, hD0⟩ := hv
  have hx := B.exec
  have hb := B.bytes
  have hr := B.returns
  have hts := atoms_spec (ws := wsX8_goShake) B.pre
  have hown : s.vm.findClass RX8 = some m.cls := findClass_of_methodNamed B.named
  have hlocks := B.notSynchronized
  have hiX8 : ∀ w ∈ u_ws RX8 TX8 33, w ∈ wsX8_goShake := fun w h => List.mem_cons_of_mem _ (List.mem_append_right _ h)
  subst hsz
  have hD := hD0.self (sz := s.heap.size)
  generalize hAe : va_A (w_X8_goShake cI cZ cG o o_text o_kind o_size o_readJar o_page o_trial o_book o_kept o_isKept o_tastedFrom o_tastedTo o_order o_spots o_gains o_value q1 v_thrown v_textSize v_place v_jars v_readPlaces v_readJars v_acts v_tasted v_seed v_some v_rowMany v_rowWay v_stuffWhich v_stuffNear v_keptMany v_keptFirst v_restMany v_restFirst f_kind f_size f_q1) s.heap.size = A at hD ⊢
  have hA : ∀ q : Nat, s.heap.size ≤ q → A q := fun q h => by rw [← hAe]; exact Or.inr h
  clear hD0
  have hS : va_S A s.heap s.heap [] := va_S.rf
  have hP : va_P (dC, dI) vwCl (w_X8_goShake cI cZ cG o o_text o_kind o_size o_readJar o_page o_trial o_book o_kept o_isKept o_tastedFrom o_tastedTo o_order o_spots o_gains o_value q1 v_thrown v_textSize v_place v_jars v_readPlaces v_readJars v_acts v_tasted v_seed v_some v_rowMany v_rowWay v_stuffWhich v_stuffNear v_keptMany v_keptFirst v_restMany v_restFirst f_kind f_size f_q1) s.heap := hP
  obtain ⟨Q, hQ⟩ : ∃ Q : State → Prop, Q = MQ below (va_Qi (fun r _ => r = r0) (gE (dC, dI) vwCl (gT cI cZ cG) (w_X8_goShake cI cZ cG o o_text o_kind o_size o_readJar o_page o_trial o_book o_kept o_isKept o_tastedFrom o_tastedTo o_order o_spots o_gains o_value q1 v_thrown v_textSize v_place v_jars v_readPlaces v_readJars v_acts v_tasted v_seed v_some v_rowMany v_rowWay v_stuffWhich v_stuffNear v_keptMany v_keptFirst v_restMany v_restFirst f_kind f_size n_q1) A) A) (([Value.ref o, Value.ref q1] : List Value).toArray) s 0 0 A := ⟨_, rfl⟩
  have hl := lv_entry ([.ref o, .ref q1]) (n := 6) (Nat.le_of_ble_eq_true rfl)
  rw [← hQ, lg_entry_eq]
  generalize (lg_sl ([.ref o, .ref q1]) ++ List.replicate (6 - (lg_sl ([.ref o, .ref q1])).length) Slot.unset).toArray = ls at hl ⊢
  have hl : lv_has ls 6 [(0, .ref o), (1, .ref q1)] := hl
  generalize hH : s.heap = H at hP hS ⊢
  have hS : va_S A s.heap H [] := by rw [hH]; exact hS
  generalize hlc : ([] : List Loc) = locs at hS ⊢
  show W p l e rm_X8_goShake s m (([Value.ref o, Value.ref q1] : List Value).toArray) below meth c H locs 0 0 Q (F0 m 0 ls [])
  have L4 : ∀ (n4 : Nat), ∀ (x2 : Int32) (x3 : Int32) (y_q1 : Nat → Int32) (H : Heap) (locs : List Loc) (ls : Array Slot), x8_goShake_b4 N v_jars f_kind f_size n4 x2 x3 y_q1 = some (r0, n_q1) → lv_has ls 6 [(0, .ref o), (1, .ref q1), (2, .int x2), (3, .int x3)] → va_P (dC, dI) vwCl (w_X8_goShake cI cZ cG o o_text o_kind o_size o_readJar o_page o_trial o_book o_kept o_isKept o_tastedFrom o_tastedTo o_order o_spots o_gains o_value q1 v_thrown v_textSize v_place v_jars v_readPlaces v_readJars v_acts v_tasted v_seed v_some v_rowMany v_rowWay v_stuffWhich v_stuffNear v_keptMany v_keptFirst v_restMany v_restFirst f_kind f_size y_q1) H → va_D A (w_X8_goShake cI cZ cG o o_text o_kind o_size o_readJar o_page o_trial o_book o_kept o_isKept o_tastedFrom o_tastedTo o_order o_spots o_gains o_value q1 v_thrown v_textSize v_place v_jars v_readPlaces v_readJars v_acts v_tasted v_seed v_some v_rowMany v_rowWay v_stuffWhich v_stuffNear v_keptMany v_keptFirst v_restMany v_restFirst f_kind f_size y_q1) → va_S A s.heap H locs → W p l e rm_X8_goShake s m (([Value.ref o, Value.ref q1] : List Value).toArray) below meth c H locs 0 0 Q (F0 m 4 ls []) := by
    intro n4
    induction n4 with
    | zero =>
      intro x2 x3 y_q1 H locs ls hf hl hP hD hS
      exact g_no hf
    | succ n4 ih4 =>
      have J134 : ∀ (x3 : Int32) (t0 : Int32) (t1 : Int32) (y_q1 : Nat → Int32) (H : Heap) (locs : List Loc) (ls : Array Slot), x8_goShake_b134 N v_jars f_kind f_size (x8_goShake_b4 N v_jars f_kind f_size n4) x3 t0 t1 y_q1 = some (r0, n_q1) → lv_has ls 6 [(0, .ref o), (1, .ref q1), (3, .int x3)] → va_P (dC, dI) vwCl (w_X8_goShake cI cZ cG o o_text o_kind o_size o_readJar o_page o_trial o_book o_kept o_isKept o_tastedFrom o_tastedTo o_order o_spots o_gains o_value q1 v_thrown v_textSize v_place v_jars v_readPlaces v_readJars v_acts v_tasted v_seed v_some v_rowMany v_rowWay v_stuffWhich v_stuffNear v_keptMany v_keptFirst v_restMany v_restFirst f_kind f_size y_q1) H → va_D A (w_X8_goShake cI cZ cG o o_text o_kind o_size o_readJar o_page o_trial o_book o_kept o_isKept o_tastedFrom o_tastedTo o_order o_spots o_gains o_value q1 v_thrown v_textSize v_place v_jars v_readPlaces v_readJars v_acts v_tasted v_seed v_some v_rowMany v_rowWay v_stuffWhich v_stuffNear v_keptMany v_keptFirst v_restMany v_restFirst f_kind f_size y_q1) → va_S A s.heap H locs → W p l e rm_X8_goShake s m (([Value.ref o, Value.ref q1] : List Value).toArray) below meth c H locs 0 0 Q (F0 m 134 ls [.int t1, .int t0]) := by
        intro x3 t0 t1 y_q1 H locs ls hf hl hP hD hS
        unfold x8_goShake_b134 at hf
        refine lv_iadd hx hb dX8_goShake_134 ?_
        refine lv_istore_n (lv' := [(2, .int (t0 + t1)), (0, .ref o), (1, .ref q1), (3, .int x3)]) hx hb dX8_goShake_135 rfl hl (by decide) rfl (fun ls hl => ?_)
        refine lv_iinc (v := (x3 + (1 : Int32))) (lv' := [(3, .int (x3 + (1 : Int32))), (2, .int (t0 + t1)), (0, .ref o), (1, .ref q1)]) hx hb dX8_goShake_136 hl (k := 3) rfl rfl (by decide) rfl (fun ls hl => ?_)
        refine lv_goto (tgt := 4) hx hb dX8_goShake_139 (by decide) ?_
        exact ih4 (t0 + t1) (x3 + (1 : Int32)) y_q1 H locs ls hf (lv_sub hl [2, 3, 1, 0] rfl) hP hD hS
      have J122 : ∀ (x2 : Int32) (x3 : Int32) (x4 : Int32) (t1 : Int32) (t2 : Int32) (y_q1 : Nat → Int32) (H : Heap) (locs : List Loc) (ls : Array Slot), x8_goShake_b122 N v_jars f_kind f_size (x8_goShake_b4 N v_jars f_kind f_size n4) x2 x3 x4 t1 t2 y_q1 = some (r0, n_q1) → lv_has ls 6 [(0, .ref o), (1, .ref q1), (2, .int x2), (3, .int x3), (4, .int x4)] → va_P (dC, dI) vwCl (w_X8_goShake cI cZ cG o o_text o_kind o_size o_readJar o_page o_trial o_book o_kept o_isKept o_tastedFrom o_tastedTo o_order o_spots o_gains o_value q1 v_thrown v_textSize v_place v_jars v_readPlaces v_readJars v_acts v_tasted v_seed v_some v_rowMany v_rowWay v_stuffWhich v_stuffNear v_keptMany v_keptFirst v_restMany v_restFirst f_kind f_size y_q1) H → va_D A (w_X8_goShake cI cZ cG o o_text o_kind o_size o_readJar o_page o_trial o_book o_kept o_isKept o_tastedFrom o_tastedTo o_order o_spots o_gains o_value q1 v_thrown v_textSize v_place v_jars v_readPlaces v_readJars v_acts v_tasted v_seed v_some v_rowMany v_rowWay v_stuffWhich v_stuffNear v_keptMany v_keptFirst v_restMany v_restFirst f_kind f_size y_q1) → va_S A s.heap H locs → W p l e rm_X8_goShake s m (([Value.ref o, Value.ref q1] : List Value).toArray) below meth c H locs 0 0 Q (F0 m 122 ls [.int t2, .int t1, .ref q1]) := by
        intro x2 x3 x4 t1 t2 y_q1 H locs ls hf hl hP hD hS
        unfold x8_goShake_b122 at hf
        obtain ⟨h1, hf⟩ := g_chk hf
        refine va_iast hx hb hK hP hD hS 3 0 rfl rfl (gIn_vp h1) dX8_goShake_122 (fun H locs hP hD hS => ?_)
        have hP : va_P (dC, dI) vwCl (w_X8_goShake cI cZ cG o o_text o_kind o_size o_readJar o_page o_trial o_book o_kept o_isKept o_tastedFrom o_tastedTo o_order o_spots o_gains o_value q1 v_thrown v_textSize v_place v_jars v_readPlaces v_readJars v_acts v_tasted v_seed v_some v_rowMany v_rowWay v_stuffWhich v_stuffNear v_keptMany v_keptFirst v_restMany v_restFirst f_kind f_size (upd y_q1 t1.toNatClampNeg t2)) H := hP
        have hD : va_D A (w_X8_goShake cI cZ cG o o_text o_kind o_size o_readJar o_page o_trial o_book o_kept o_isKept o_tastedFrom o_tastedTo o_order o_spots o_gains o_value q1 v_thrown v_textSize v_place v_jars v_readPlaces v_readJars v_acts v_tasted v_seed v_some v_rowMany v_rowWay v_stuffWhich v_stuffNear v_keptMany v_keptFirst v_restMany v_restFirst f_kind f_size (upd y_q1 t1.toNatClampNeg t2)) := hD
        refine lv_iload_n hx hb dX8_goShake_123 rfl (lv_at hl 2 rfl) ?_
        refine lv_iload hx hb dX8_goShake_124 (lv_at hl 4 rfl) ?_
        refine lv_if_eq (tgt := 133) hx hb dX8_goShake_126 (by decide) (fun c2 => ?_) (fun c2 => ?_)
        · have hf := g_pos c2 hf
          refine lv_iconst (v := (0 : Int32)) hx hb dX8_goShake_133 (by decide) ?_
          exact J134 x3 x2 (0 : Int32) (upd y_q1 t1.toNatClampNeg t2) H locs ls hf (lv_sub hl [0, 1, 3] rfl) hP hD hS
        · have hf := g_neg c2 hf
          refine lv_iconst (v := (1 : Int32)) hx hb dX8_goShake_129 (by decide) ?_
          refine lv_goto (tgt := 134) hx hb dX8_goShake_130 (by decide) ?_
          exact J134 x3 x2 (1 : Int32) (upd y_q1 t1.toNatClampNeg t2) H locs ls hf (lv_sub hl [0, 1, 3] rfl) hP hD hS
      have J92 : ∀ (x2 : Int32) (x3 : Int32) (x4 : Int32) (x5 : Int32) (t1 : Int32) (t2 : Int32) (y_q1 : Nat → Int32) (H : Heap) (locs : List Loc) (ls : Array Slot), x8_goShake_b92 N v_jars f_kind f_size (x8_goShake_b4 N v_jars f_kind f_size n4) x2 x3 x4 x5 t1 t2 y_q1 = some (r0, n_q1) → lv_has ls 6 [(0, .ref o), (1, .ref q1), (2, .int x2), (3, .int x3), (4, .int x4), (5, .int x5)] → va_P (dC, dI) vwCl (w_X8_goShake cI cZ cG o o_text o_kind o_size o_readJar o_page o_trial o_book o_kept o_isKept o_tastedFrom o_tastedTo o_order o_spots o_gains o_value q1 v_thrown v_textSize v_place v_jars v_readPlaces v_readJars v_acts v_tasted v_seed v_some v_rowMany v_rowWay v_stuffWhich v_stuffNear v_keptMany v_keptFirst v_restMany v_restFirst f_kind f_size y_q1) H → va_D A (w_X8_goShake cI cZ cG o o_text o_kind o_size o_readJar o_page o_trial o_book o_kept o_isKept o_tastedFrom o_tastedTo o_order o_spots o_gains o_value q1 v_thrown v_textSize v_place v_jars v_readPlaces v_readJars v_acts v_tasted v_seed v_some v_rowMany v_rowWay v_stuffWhich v_stuffNear v_keptMany v_keptFirst v_restMany v_restFirst f_kind f_size y_q1) → va_S A s.heap H locs → W p l e rm_X8_goShake s m (([Value.ref o, Value.ref q1] : List Value).toArray) below meth c H locs 0 0 Q (F0 m 92 ls [.int t2, .int t1, .ref q1]) := by
        intro x2 x3 x4 x5 t1 t2 y_q1 H locs ls hf hl hP hD hS
        unfold x8_goShake_b92 at hf
        obtain ⟨h3, hf⟩ := g_chk hf
        refine va_iast hx hb hK hP hD hS 3 0 rfl rfl (gIn_vp h3) dX8_goShake_92 (fun H locs hP hD hS => ?_)
        have hP : va_P (dC, dI) vwCl (w_X8_goShake cI cZ cG o o_text o_kind o_size o_readJar o_page o_trial o_book o_kept o_isKept o_tastedFrom o_tastedTo o_order o_spots o_gains o_value q1 v_thrown v_textSize v_place v_jars v_readPlaces v_readJars v_acts v_tasted v_seed v_some v_rowMany v_rowWay v_stuffWhich v_stuffNear v_keptMany v_keptFirst v_restMany v_restFirst f_kind f_size (upd y_q1 t1.toNatClampNeg t2)) H := hP
        have hD : va_D A (w_X8_goShake cI cZ cG o o_text o_kind o_size o_readJar o_page o_trial o_book o_kept o_isKept o_tastedFrom o_tastedTo o_order o_spots o_gains o_value q1 v_thrown v_textSize v_place v_jars v_readPlaces v_readJars v_acts v_tasted v_seed v_some v_rowMany v_rowWay v_stuffWhich v_stuffNear v_keptMany v_keptFirst v_restMany v_restFirst f_kind f_size (upd y_q1 t1.toNatClampNeg t2)) := hD
        refine lv_aload_n hx hb dX8_goShake_93 rfl (lv_at hl 1 rfl) ?_
        refine lv_bipush (v := (24 : Int32)) hx hb dX8_goShake_94 (by decide +kernel) ?_
        refine lv_iload_n hx hb dX8_goShake_96 rfl (lv_at hl 3 rfl) ?_
        refine lv_iadd hx hb dX8_goShake_97 ?_
        refine lv_iload hx hb dX8_goShake_98 (lv_at hl 5 rfl) ?_
        refine lv_if_eq (tgt := 116) hx hb dX8_goShake_100 (by decide) (fun c4 => ?_) (fun c4 => ?_)
        · have hf := g_pos c4 hf
          refine lv_aload_n hx hb dX8_goShake_116 rfl (lv_at hl 1 rfl) ?_
          refine lv_bipush (v := (24 : Int32)) hx hb dX8_goShake_117 (by decide +kernel) ?_
          refine lv_iload_n hx hb dX8_goShake_119 rfl (lv_at hl 3 rfl) ?_
          refine lv_iadd hx hb dX8_goShake_120 ?_
          obtain ⟨h5, hf⟩ := g_chk hf
          refine va_iald hx hb hK hP 3 0 rfl rfl (gIn_vp h5) dX8_goShake_121 ?_
          exact J122 x2 x3 x4 ((24 : Int32) + x3) ((upd y_q1 t1.toNatClampNeg t2) ((24 : Int32) + x3).toNatClampNeg) (upd y_q1 t1.toNatClampNeg t2) H locs ls hf (lv_sub hl [0, 1, 2, 3, 4] rfl) hP hD hS
        · have hf := g_neg c4 hf
          refine lv_aload_n hx hb dX8_goShake_103 rfl (lv_at hl 1 rfl) ?_
          refine lv_bipush (v := (24 : Int32)) hx hb dX8_goShake_104 (by decide +kernel) ?_
          refine lv_iload_n hx hb dX8_goShake_106 rfl (lv_at hl 3 rfl) ?_
          refine lv_iadd hx hb dX8_goShake_107 ?_
          obtain ⟨h6, hf⟩ := g_chk hf
          refine va_iald hx hb hK hP 3 0 rfl rfl (gIn_vp h6) dX8_goShake_108 ?_
          refine lv_iconst (v := (1 : Int32)) hx hb dX8_goShake_109 (by decide) ?_
          refine lv_iadd hx hb dX8_goShake_110 ?_
          refine lv_iconst (v := (4 : Int32)) hx hb dX8_goShake_111 (by decide) ?_
          refine lv_irem hx hb dX8_goShake_112 (by decide) ?_
          refine lv_goto (tgt := 122) hx hb dX8_goShake_113 (by decide) ?_
          exact J122 x2 x3 x4 ((24 : Int32) + x3) ((((upd y_q1 t1.toNatClampNeg t2) ((24 : Int32) + x3).toNatClampNeg) + (1 : Int32)) - (((upd y_q1 t1.toNatClampNeg t2) ((24 : Int32) + x3).toNatClampNeg) + (1 : Int32)) / (4 : Int32) * (4 : Int32)) (upd y_q1 t1.toNatClampNeg t2) H locs ls hf (lv_sub hl [0, 1, 2, 3, 4] rfl) hP hD hS
      have J70 : ∀ (x2 : Int32) (x3 : Int32) (x4 : Int32) (t0 : Int32) (y_q1 : Nat → Int32) (H : Heap) (locs : List Loc) (ls : Array Slot), x8_goShake_b70 N v_jars f_kind f_size (x8_goShake_b4 N v_jars f_kind f_size n4) x2 x3 x4 t0 y_q1 = some (r0, n_q1) → lv_has ls 6 [(0, .ref o), (1, .ref q1), (2, .int x2), (3, .int x3), (4, .int x4)] → va_P (dC, dI) vwCl (w_X8_goShake cI cZ cG o o_text o_kind o_size o_readJar o_page o_trial o_book o_kept o_isKept o_tastedFrom o_tastedTo o_order o_spots o_gains o_value q1 v_thrown v_textSize v_place v_jars v_readPlaces v_readJars v_acts v_tasted v_seed v_some v_rowMany v_rowWay v_stuffWhich v_stuffNear v_keptMany v_keptFirst v_restMany v_restFirst f_kind f_size y_q1) H → va_D A (w_X8_goShake cI cZ cG o o_text o_kind o_size o_readJar o_page o_trial o_book o_kept o_isKept o_tastedFrom o_tastedTo o_order o_spots o_gains o_value q1 v_thrown v_textSize v_place v_jars v_readPlaces v_readJars v_acts v_tasted v_seed v_some v_rowMany v_rowWay v_stuffWhich v_stuffNear v_keptMany v_keptFirst v_restMany v_restFirst f_kind f_size y_q1) → va_S A s.heap H locs → W p l e rm_X8_goShake s m (([Value.ref o, Value.ref q1] : List Value).toArray) below meth c H locs 0 0 Q (F0 m 70 ls [.int t0]) := by
        intro x2 x3 x4 t0 y_q1 H locs ls hf hl hP hD hS
        unfold x8_goShake_b70 at hf
        refine lv_istore (lv' := [(5, .int t0), (0, .ref o), (1, .ref q1), (2, .int x2), (3, .int x3), (4, .int x4)]) hx hb dX8_goShake_70 hl (by decide) rfl (fun ls hl => ?_)
        refine lv_aload_n hx hb dX8_goShake_72 rfl (lv_at hl 2 rfl) ?_
        refine lv_bipush (v := (30 : Int32)) hx hb dX8_goShake_73 (by decide +kernel) ?_
        refine lv_iload_n hx hb dX8_goShake_75 rfl (lv_at hl 4 rfl) ?_
        refine lv_iadd hx hb dX8_goShake_76 ?_
        refine lv_iload hx hb dX8_goShake_77 (lv_at hl 5 rfl) ?_
        refine lv_if_eq (tgt := 86) hx hb dX8_goShake_79 (by decide) (fun c7 => ?_) (fun c7 => ?_)
        · have hf := g_pos c7 hf
          refine lv_aload_n hx hb dX8_goShake_86 rfl (lv_at hl 2 rfl) ?_
          refine lv_bipush (v := (30 : Int32)) hx hb dX8_goShake_87 (by decide +kernel) ?_
          refine lv_iload_n hx hb dX8_goShake_89 rfl (lv_at hl 4 rfl) ?_
          refine lv_iadd hx hb dX8_goShake_90 ?_
          obtain ⟨h8, hf⟩ := g_chk hf
          refine va_iald hx hb hK hP 3 0 rfl rfl (gIn_vp h8) dX8_goShake_91 ?_
          exact J92 x2 x3 x4 t0 ((30 : Int32) + x3) (y_q1 ((30 : Int32) + x3).toNatClampNeg) y_q1 H locs ls hf (lv_sub hl [1, 2, 3, 4, 5, 0] rfl) hP hD hS
        · have hf := g_neg c7 hf
          refine lv_iconst (v := (1 : Int32)) hx hb dX8_goShake_82 (by decide) ?_
          refine lv_goto (tgt := 92) hx hb dX8_goShake_83 (by decide) ?_
          exact J92 x2 x3 x4 t0 ((30 : Int32) + x3) (1 : Int32) y_q1 H locs ls hf (lv_sub hl [1, 2, 3, 4, 5, 0] rfl) hP hD hS
      have J69 : ∀ (x2 : Int32) (x3 : Int32) (x4 : Int32) (y_q1 : Nat → Int32) (H : Heap) (locs : List Loc) (ls : Array Slot), x8_goShake_b69 N v_jars f_kind f_size (x8_goShake_b4 N v_jars f_kind f_size n4) x2 x3 x4 y_q1 = some (r0, n_q1) → lv_has ls 6 [(0, .ref o), (1, .ref q1), (2, .int x2), (3, .int x3), (4, .int x4)] → va_P (dC, dI) vwCl (w_X8_goShake cI cZ cG o o_text o_kind o_size o_readJar o_page o_trial o_book o_kept o_isKept o_tastedFrom o_tastedTo o_order o_spots o_gains o_value q1 v_thrown v_textSize v_place v_jars v_readPlaces v_readJars v_acts v_tasted v_seed v_some v_rowMany v_rowWay v_stuffWhich v_stuffNear v_keptMany v_keptFirst v_restMany v_restFirst f_kind f_size y_q1) H → va_D A (w_X8_goShake cI cZ cG o o_text o_kind o_size o_readJar o_page o_trial o_book o_kept o_isKept o_tastedFrom o_tastedTo o_order o_spots o_gains o_value q1 v_thrown v_textSize v_place v_jars v_readPlaces v_readJars v_acts v_tasted v_seed v_some v_rowMany v_rowWay v_stuffWhich v_stuffNear v_keptMany v_keptFirst v_restMany v_restFirst f_kind f_size y_q1) → va_S A s.heap H locs → W p l e rm_X8_goShake s m (([Value.ref o, Value.ref q1] : List Value).toArray) below meth c H locs 0 0 Q (F0 m 69 ls []) := by
        intro x2 x3 x4 y_q1 H locs ls hf hl hP hD hS
        unfold x8_goShake_b69 at hf
        refine lv_iconst (v := (0 : Int32)) hx hb dX8_goShake_69 (by decide) ?_
        exact J70 x2 x3 x4 (0 : Int32) y_q1 H locs ls hf (lv_sub hl [0, 1, 2, 3, 4] rfl) hP hD hS
      have J40 : ∀ (x2 : Int32) (x3 : Int32) (t0 : Int32) (y_q1 : Nat → Int32) (H : Heap) (locs : List Loc) (ls : Array Slot), x8_goShake_b40 N v_jars f_kind f_size (x8_goShake_b4 N v_jars f_kind f_size n4) x2 x3 t0 y_q1 = some (r0, n_q1) → lv_has ls 6 [(0, .ref o), (1, .ref q1), (2, .int x2), (3, .int x3)] → va_P (dC, dI) vwCl (w_X8_goShake cI cZ cG o o_text o_kind o_size o_readJar o_page o_trial o_book o_kept o_isKept o_tastedFrom o_tastedTo o_order o_spots o_gains o_value q1 v_thrown v_textSize v_place v_jars v_readPlaces v_readJars v_acts v_tasted v_seed v_some v_rowMany v_rowWay v_stuffWhich v_stuffNear v_keptMany v_keptFirst v_restMany v_restFirst f_kind f_size y_q1) H → va_D A (w_X8_goShake cI cZ cG o o_text o_kind o_size o_readJar o_page o_trial o_book o_kept o_isKept o_tastedFrom o_tastedTo o_order o_spots o_gains o_value q1 v_thrown v_textSize v_place v_jars v_readPlaces v_readJars v_acts v_tasted v_seed v_some v_rowMany v_rowWay v_stuffWhich v_stuffNear v_keptMany v_keptFirst v_restMany v_restFirst f_kind f_size y_q1) → va_S A s.heap H locs → W p l e rm_X8_goShake s m (([Value.ref o, Value.ref q1] : List Value).toArray) below meth c H locs 0 0 Q (F0 m 40 ls [.int t0]) := by
        intro x2 x3 t0 y_q1 H locs ls hf hl hP hD hS
        unfold x8_goShake_b40 at hf
        refine lv_istore (lv' := [(4, .int t0), (0, .ref o), (1, .ref q1), (2, .int x2), (3, .int x3)]) hx hb dX8_goShake_40 hl (by decide) rfl (fun ls hl => ?_)
        refine lv_aload_n hx hb dX8_goShake_42 rfl (lv_at hl 2 rfl) ?_
        refine lv_iload_n hx hb dX8_goShake_43 rfl (lv_at hl 4 rfl) ?_
        obtain ⟨r9, hc10, hf⟩ := g_b1 hf
        refine g_rS (As := [.ref q1, .int x3]) (rest := []) ⟨hx, hb, hml, hown, hts⟩ (c_X8_isWhole l dC dI cI cZ cG q1  y_q1 x3 hc10) (va_cwS 2 hts gX8_goShake_X8_isWhole rfl rfl rfl (by decide +kernel) ⟨Nat.le_of_ble_eq_true rfl, Nat.le_of_ble_eq_true rfl⟩) hK hN (hP.sub [3] rfl) rfl hl.1 rfl (Nat.le_of_ble_eq_true rfl) dX8_goShake_44 ⟨Nat.zero_le _, Nat.zero_le _⟩ ?_
        refine lv_if_eq (tgt := 69) hx hb dX8_goShake_47 (by decide) (fun c11 => ?_) (fun c11 => ?_)
        · have hf := g_pos c11 hf
          exact J69 x2 x3 t0 y_q1 H locs ls hf (lv_sub hl [1, 2, 3, 4, 0] rfl) hP hD hS
        · have hf := g_neg c11 hf
          refine lv_iload hx hb dX8_goShake_50 (lv_at hl 0 rfl) ?_
          refine lv_if_ne (tgt := 69) hx hb dX8_goShake_52 (by decide) (fun c12 => ?_) (fun c12 => ?_)
          · have hf := g_neg c12 hf
            exact J69 x2 x3 t0 y_q1 H locs ls hf (lv_sub hl [1, 2, 3, 4, 0] rfl) hP hD hS
          · have hf := g_pos c12 hf
            refine lv_aload_n hx hb dX8_goShake_55 rfl (lv_at hl 1 rfl) ?_
            refine va_get (D := (dC, dI)) (ci := 8) (v := .ref o_kind) (C := RX8) (T := TX8) (N := 33) hx hb hts hiX8 hown hK hP 0 rfl rfl 5 (by decide) (hts (.fieldLink RX8 13 "GreenJarsModel" "kind" "[I") (by decide +kernel)) (fun _ h9 => h9) rfl dX8_goShake_56 ?_
            refine lv_iload_n hx hb dX8_goShake_59 rfl (lv_at hl 4 rfl) ?_
            obtain ⟨h13, hf⟩ := g_chk hf
            refine va_iald hx hb hK hP 1 0 rfl rfl (gIn_vp h13) dX8_goShake_60 ?_
            refine lv_iconst (v := (3 : Int32)) hx hb dX8_goShake_61 (by decide) ?_
            refine lv_icmp_eq (tgt := 69) hx hb dX8_goShake_62 (by decide) (fun c14 => ?_) (fun c14 => ?_)
            · have hf := g_pos c14 hf
              exact J69 x2 x3 t0 y_q1 H locs ls hf (lv_sub hl [1, 2, 3, 4, 0] rfl) hP hD hS
            · have hf := g_neg c14 hf
              refine lv_iconst (v := (1 : Int32)) hx hb dX8_goShake_65 (by decide) ?_
              refine lv_goto (tgt := 70) hx hb dX8_goShake_66 (by decide) ?_
              exact J70 x2 x3 t0 (1 : Int32) y_q1 H locs ls hf (lv_sub hl [1, 2, 3, 4, 0] rfl) hP hD hS
      have J39 : ∀ (x2 : Int32) (x3 : Int32) (y_q1 : Nat → Int32) (H : Heap) (locs : List Loc) (ls : Array Slot), x8_goShake_b39 N v_jars f_kind f_size (x8_goShake_b4 N v_jars f_kind f_size n4) x2 x3 y_q1 = some (r0, n_q1) → lv_has ls 6 [(0, .ref o), (1, .ref q1), (2, .int x2), (3, .int x3)] → va_P (dC, dI) vwCl (w_X8_goShake cI cZ cG o o_text o_kind o_size o_readJar o_page o_trial o_book o_kept o_isKept o_tastedFrom o_tastedTo o_order o_spots o_gains o_value q1 v_thrown v_textSize v_place v_jars v_readPlaces v_readJars v_acts v_tasted v_seed v_some v_rowMany v_rowWay v_stuffWhich v_stuffNear v_keptMany v_keptFirst v_restMany v_restFirst f_kind f_size y_q1) H → va_D A (w_X8_goShake cI cZ cG o o_text o_kind o_size o_readJar o_page o_trial o_book o_kept o_isKept o_tastedFrom o_tastedTo o_order o_spots o_gains o_value q1 v_thrown v_textSize v_place v_jars v_readPlaces v_readJars v_acts v_tasted v_seed v_some v_rowMany v_rowWay v_stuffWhich v_stuffNear v_keptMany v_keptFirst v_restMany v_restFirst f_kind f_size y_q1) → va_S A s.heap H locs → W p l e rm_X8_goShake s m (([Value.ref o, Value.ref q1] : List Value).toArray) below meth c H locs 0 0 Q (F0 m 39 ls []) := by
        intro x2 x3 y_q1 H locs ls hf hl hP hD hS
        unfold x8_goShake_b39 at hf
        refine lv_iconst (v := (0 : Int32)) hx hb dX8_goShake_39 (by decide) ?_
        exact J40 x2 x3 (0 : Int32) y_q1 H locs ls hf (lv_sub hl [0, 1, 2, 3] rfl) hP hD hS
      intro x2 x3 y_q1 H locs ls hf hl hP hD hS
      unfold x8_goShake_b4 at hf
      refine lv_iload_n hx hb dX8_goShake_4 rfl (lv_at hl 3 rfl) ?_
      refine lv_aload_n hx hb dX8_goShake_5 rfl (lv_at hl 0 rfl) ?_
      refine va_get (D := (dC, dI)) (ci := 8) (v := .int v_jars) (C := RX8) (T := TX8) (N := 33) hx hb hts hiX8 hown hK hP 0 rfl rfl 4 (by decide) (hts (.fieldLink RX8 60 "GreenJarsModel" "jars" "I") (by decide +kernel)) (fun _ h9 => h9) rfl dX8_goShake_6 ?_
      refine lv_icmp_ge (tgt := 142) hx hb dX8_goShake_9 (by decide) (fun c15 => ?_) (fun c15 => ?_)
      · have hf := g_pos c15 hf
        refine lv_iload_n hx hb dX8_goShake_142 rfl (lv_at hl 2 rfl) ?_
        rw [hQ]
        cases hf
        exact W.iret hx hb hr (fun t ht hW => ⟨⟨_, (), rfl, rfl, by rw [ht]; exact hP, va_K.moved hW.alike hK, hD⟩, hS.F ht⟩) hS.2.2 dX8_goShake_143
      · have hf := g_neg c15 hf
        refine lv_aload_n hx hb dX8_goShake_12 rfl (lv_at hl 1 rfl) ?_
        refine lv_iload_n hx hb dX8_goShake_13 rfl (lv_at hl 3 rfl) ?_
        obtain ⟨r16, hc17, hf⟩ := g_b1 hf
        refine g_rS (As := [.ref q1, .int x3]) (rest := []) ⟨hx, hb, hml, hown, hts⟩ (c_X8_isWhole l dC dI cI cZ cG q1  y_q1 x3 hc17) (va_cwS 2 hts gX8_goShake_X8_isWhole rfl rfl rfl (by decide +kernel) ⟨Nat.le_of_ble_eq_true rfl, Nat.le_of_ble_eq_true rfl⟩) hK hN (hP.sub [3] rfl) rfl hl.1 rfl (Nat.le_of_ble_eq_true rfl) dX8_goShake_14 ⟨Nat.zero_le _, Nat.zero_le _⟩ ?_
        refine lv_if_eq (tgt := 39) hx hb dX8_goShake_17 (by decide) (fun c18 => ?_) (fun c18 => ?_)
        · have hf := g_pos c18 hf
          exact J39 x2 x3 y_q1 H locs ls hf (lv_sub hl [0, 1, 2, 3] rfl) hP hD hS
        · have hf := g_neg c18 hf
          refine lv_aload_n hx hb dX8_goShake_20 rfl (lv_at hl 0 rfl) ?_
          refine va_get (D := (dC, dI)) (ci := 8) (v := .ref o_size) (C := RX8) (T := TX8) (N := 33) hx hb hts hiX8 hown hK hP 0 rfl rfl 6 (by decide) (hts (.fieldLink RX8 16 "GreenJarsModel" "size" "[I") (by decide +kernel)) (fun _ h9 => h9) rfl dX8_goShake_21 ?_
          refine lv_iload_n hx hb dX8_goShake_24 rfl (lv_at hl 3 rfl) ?_
          obtain ⟨h19, hf⟩ := g_chk hf
          refine va_iald hx hb hK hP 2 0 rfl rfl (gIn_vp h19) dX8_goShake_25 ?_
          refine lv_aload_n hx hb dX8_goShake_26 rfl (lv_at hl 1 rfl) ?_
          refine lv_bipush (v := (18 : Int32)) hx hb dX8_goShake_27 (by decide +kernel) ?_
          refine lv_iload_n hx hb dX8_goShake_29 rfl (lv_at hl 3 rfl) ?_
          refine lv_iadd hx hb dX8_goShake_30 ?_
          obtain ⟨h20, hf⟩ := g_chk hf
          refine va_iald hx hb hK hP 3 0 rfl rfl (gIn_vp h20) dX8_goShake_31 ?_
          refine lv_icmp_ge (tgt := 39) hx hb dX8_goShake_32 (by decide) (fun c21 => ?_) (fun c21 => ?_)
          · have hf := g_pos c21 hf
            exact J39 x2 x3 y_q1 H locs ls hf (lv_sub hl [0, 1, 2, 3] rfl) hP hD hS
          · have hf := g_neg c21 hf
            refine lv_iconst (v := (1 : Int32)) hx hb dX8_goShake_35 (by decide) ?_
            refine lv_goto (tgt := 40) hx hb dX8_goShake_36 (by decide) ?_
            exact J40 x2 x3 (1 : Int32) y_q1 H locs ls hf (lv_sub hl [0, 1, 2, 3] rfl) hP hD hS
  unfold x8_goShake at hf
  refine lv_iconst (v := (0 : Int32)) hx hb dX8_goShake_0 (by decide) ?_
  refine lv_istore_n (lv' := [(2, .int (0 : Int32)), (0, .ref o), (1, .ref q1)]) hx hb dX8_goShake_1 rfl hl (by decide) rfl (fun ls hl => ?_)
  refine lv_iconst (v := (0 : Int32)) hx hb dX8_goShake_2 (by decide) ?_
  refine lv_istore_n (lv' := [(3, .int (0 : Int32)), (2, .int (0 : Int32)), (0, .ref o), (1, .ref q1)]) hx hb dX8_goShake_3 rfl hl (by decide) rfl (fun ls hl => ?_)
  exact L4 N (0 : Int32) (0 : Int32) f_q1 H locs ls hf (lv_sub hl [2, 3, 1, 0] rfl) hP hD hS
abbrev rm_X8_isOn : Room := { frames := 1, cells := 0, slots := 0, locals := 21 }
abbrev w_X8_isOn (cI cZ cG : ClassId) (o : Nat) (o_text : Nat) (o_kind : Nat) (o_size : Nat) (o_readJar : Nat) (o_page : Nat) (o_trial : Nat) (o_book : Nat) (o_kept : Nat) (o_isKept : Nat) (o_tastedFrom : Nat) (o_tastedTo : Nat) (o_order : Nat) (o_spots : Nat) (o_gains : Nat) (o_value : Nat) (q1 : Nat) (v_thrown : Int32) (v_textSize : Int32) (v_place : Int32) (v_jars : Int32) (v_readPlaces : Int32) (v_readJars : Int32) (v_acts : Int32) (v_tasted : Int32) (v_seed : Int64) (v_some : Int32) (v_rowMany : Int32) (v_rowWay : Int32) (v_stuffWhich : Int32) (v_stuffNear : Int32) (v_keptMany : Int32) (v_keptFirst : Int32) (v_restMany : Int32) (v_restFirst : Int32) (f_q1 : Nat → Int32) : va_W := [(o, .inr (8, [.int v_thrown, .ref o_text, .int v_textSize, .int v_place, .int v_jars, .ref o_kind, .ref o_size, .int v_readPlaces, .int v_readJars, .ref o_readJar, .ref o_page, .ref o_trial, .ref o_book, .int v_acts, .ref o_kept, .ref o_isKept, .int v_tasted, .ref o_tastedFrom, .ref o_tastedTo, .long v_seed, .int v_some, .ref o_order, .ref o_spots, .int v_rowMany, .int v_rowWay, .int v_stuffWhich, .int v_stuffNear, .int v_keptMany, .int v_keptFirst, .int v_restMany, .int v_restFirst, .ref o_gains, .ref o_value])), (q1, .inl (cI, 37, .inl f_q1))]
set_option maxHeartbeats 4000000 in
set_option maxRecDepth 100000 in
theorem c_X8_isOn (l : Launch) (dC : Nat → ClassId) (dI : Nat → Nat → Nat) (cI cZ cG : ClassId) (o : Nat) (o_text : Nat) (o_kind : Nat) (o_size : Nat) (o_readJar : Nat) (o_page : Nat) (o_trial : Nat) (o_book : Nat) (o_kept : Nat) (o_isKept : Nat) (o_tastedFrom : Nat) (o_tastedTo : Nat) (o_order : Nat) (o_spots : Nat) (o_gains : Nat) (o_value : Nat) (q1 : Nat) (v_thrown : Int32) (v_textSize : Int32) (v_place : Int32) (v_jars : Int32) (v_readPlaces : Int32) (v_readJars : Int32) (v_acts : Int32) (v_tasted : Int32) (v_seed : Int64) (v_some : Int32) (v_rowMany : Int32) (v_rowWay : Int32) (v_stuffWhich : Int32) (v_stuffNear : Int32) (v_keptMany : Int32) (v_keptFirst : Int32) (v_restMany : Int32) (v_restFirst : Int32) (f_q1 : Nat → Int32) (a2 : Int32) {r0 : Int32} (hf : x8_isOn v_some f_q1 a2 = some r0) : Met l yX8_isOn wsX8_isOn rm_X8_isOn (va_Pc [.ref o, .ref q1, .int a2] (gR (dC, dI) vwCl (gT cI cZ cG) (w_X8_isOn cI cZ cG o o_text o_kind o_size o_readJar o_page o_trial o_book o_kept o_isKept o_tastedFrom o_tastedTo o_order o_spots o_gains o_value q1 v_thrown v_textSize v_place v_jars v_readPlaces v_readJars v_acts v_tasted v_seed v_some v_rowMany v_rowWay v_stuffWhich v_stuffNear v_keptMany v_keptFirst v_restMany v_restFirst f_q1))) (vp_Si (fun r => r = r0)) 0 0 (fun _ => False) := by
  refine Met.ofW (cc := cX8_isOn) (maxL := 3) (ret := (some .boolean)) (by decide) rfl ?_
  intro p e s m args below meth c s₁ B hml hv
  obtain ⟨rfl, hv⟩ := hv
  obtain ⟨hP, hK, hN⟩ := hv
  have hx := B.exec
  have hb := B.bytes
  have hr := B.returns
  have hts := atoms_spec (ws := wsX8_isOn) B.pre
  have hown : s.vm.findClass RX8 = some m.cls := findClass_of_methodNamed B.named
  have hlocks := B.notSynchronized
  have hiX8 : ∀ w ∈ u_ws RX8 TX8 33, w ∈ wsX8_isOn := fun w h => List.mem_cons_of_mem _ (List.mem_append_right _ h)
  obtain ⟨Q, hQ⟩ : ∃ Q : State → Prop, Q = MQ below (vp_Si (fun r => r = r0)) (([Value.ref o, Value.ref q1, Value.int a2] : List Value).toArray) s 0 0 (fun _ => False) := ⟨_, rfl⟩
  have hl := lv_entry ([.ref o, .ref q1, .int a2]) (n := 3) (Nat.le_of_ble_eq_true rfl)
  rw [← hQ, lg_entry_eq]
  generalize (lg_sl ([.ref o, .ref q1, .int a2]) ++ List.replicate (3 - (lg_sl ([.ref o, .ref q1, .int a2])).length) Slot.unset).toArray = ls at hl ⊢
  have hl : lv_has ls 3 [(0, .ref o), (1, .ref q1), (2, .int a2)] := hl
  show W p l e rm_X8_isOn s m (([Value.ref o, Value.ref q1, Value.int a2] : List Value).toArray) below meth c s.heap [] 0 0 Q (F0 m 0 ls [])
  unfold x8_isOn at hf
  refine lv_aload_n hx hb dX8_isOn_0 rfl (lv_at hl 0 rfl) ?_
  refine va_get (D := (dC, dI)) (ci := 8) (v := .int v_some) (C := RX8) (T := TX8) (N := 33) hx hb hts hiX8 hown hK hP 0 rfl rfl 20 (by decide) (hts (.fieldLink RX8 109 "GreenJarsModel" "some" "I") (by decide +kernel)) (fun _ h9 => h9) rfl dX8_isOn_1 ?_
  refine lv_iload_n hx hb dX8_isOn_4 rfl (lv_at hl 2 rfl) ?_
  obtain ⟨r1, hc2, hf⟩ := g_b1 hf
  refine g_rS (As := [.int v_some, .int a2]) (rest := []) ⟨hx, hb, hml, hown, hts⟩ (c_X8_has l dC dI cI cZ cG    v_some a2 hc2) (va_cwS 2 hts gX8_isOn_X8_has rfl rfl rfl (by decide +kernel) ⟨Nat.le_of_ble_eq_true rfl, Nat.le_of_ble_eq_true rfl⟩) hK hN (hP.sub [] rfl) rfl hl.1 rfl (Nat.le_of_ble_eq_true rfl) dX8_isOn_5 ⟨Nat.zero_le _, Nat.zero_le _⟩ ?_
  refine lv_if_eq (tgt := 25) hx hb dX8_isOn_8 (by decide) (fun c3 => ?_) (fun c3 => ?_)
  · have hf := g_pos c3 hf
    refine lv_iconst (v := (0 : Int32)) hx hb dX8_isOn_25 (by decide) ?_
    rw [hQ]
    exact W.zret (v := (0 : Int32)) hx hb hr (by decide +kernel) (fun t ht hW => ⟨_, rfl, Option.some.inj hf, ht⟩) (fun q h => by cases h) dX8_isOn_26
  · have hf := g_neg c3 hf
    refine lv_aload_n hx hb dX8_isOn_11 rfl (lv_at hl 1 rfl) ?_
    refine lv_bipush (v := (30 : Int32)) hx hb dX8_isOn_12 (by decide +kernel) ?_
    refine lv_iload_n hx hb dX8_isOn_14 rfl (lv_at hl 2 rfl) ?_
    refine lv_iadd hx hb dX8_isOn_15 ?_
    obtain ⟨h4, hf⟩ := g_chk hf
    refine va_iald hx hb hK hP 1 0 rfl rfl (gIn_vp h4) dX8_isOn_16 ?_
    refine lv_iconst (v := (2 : Int32)) hx hb dX8_isOn_17 (by decide) ?_
    refine lv_icmp_eq (tgt := 25) hx hb dX8_isOn_18 (by decide) (fun c5 => ?_) (fun c5 => ?_)
    · have hf := g_pos c5 hf
      refine lv_iconst (v := (0 : Int32)) hx hb dX8_isOn_25 (by decide) ?_
      rw [hQ]
      exact W.zret (v := (0 : Int32)) hx hb hr (by decide +kernel) (fun t ht hW => ⟨_, rfl, Option.some.inj hf, ht⟩) (fun q h => by cases h) dX8_isOn_26
    · have hf := g_neg c5 hf
      refine lv_iconst (v := (1 : Int32)) hx hb dX8_isOn_21 (by decide) ?_
      refine lv_goto (tgt := 26) hx hb dX8_isOn_22 (by decide) ?_
      rw [hQ]
      exact W.zret (v := (1 : Int32)) hx hb hr (by decide +kernel) (fun t ht hW => ⟨_, rfl, Option.some.inj hf, ht⟩) (fun q h => by cases h) dX8_isOn_26
