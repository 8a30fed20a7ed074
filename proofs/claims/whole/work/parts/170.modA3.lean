abbrev rm_X8_judge : Room := { frames := 6, cells := 0, slots := 0, locals := 142 }
abbrev w_X8_judge (cI cZ cG : ClassId) (o : Nat) (o_text : Nat) (o_kind : Nat) (o_size : Nat) (o_readJar : Nat) (o_page : Nat) (o_trial : Nat) (o_book : Nat) (o_kept : Nat) (o_isKept : Nat) (o_tastedFrom : Nat) (o_tastedTo : Nat) (o_order : Nat) (o_spots : Nat) (o_gains : Nat) (o_value : Nat) (v_thrown : Int32) (v_textSize : Int32) (v_place : Int32) (v_jars : Int32) (v_readPlaces : Int32) (v_readJars : Int32) (v_acts : Int32) (v_tasted : Int32) (v_seed : Int64) (v_some : Int32) (v_rowMany : Int32) (v_rowWay : Int32) (v_stuffWhich : Int32) (v_stuffNear : Int32) (v_keptMany : Int32) (v_keptFirst : Int32) (v_restMany : Int32) (v_restFirst : Int32) (f_kind : Nat → Int32) (f_size : Nat → Int32) (f_page : Nat → Int32) (f_trial : Nat → Int32) : va_W := [(o, .inr (8, [.int v_thrown, .ref o_text, .int v_textSize, .int v_place, .int v_jars, .ref o_kind, .ref o_size, .int v_readPlaces, .int v_readJars, .ref o_readJar, .ref o_page, .ref o_trial, .ref o_book, .int v_acts, .ref o_kept, .ref o_isKept, .int v_tasted, .ref o_tastedFrom, .ref o_tastedTo, .long v_seed, .int v_some, .ref o_order, .ref o_spots, .int v_rowMany, .int v_rowWay, .int v_stuffWhich, .int v_stuffNear, .int v_keptMany, .int v_keptFirst, .int v_restMany, .int v_restFirst, .ref o_gains, .ref o_value])), (o_kind, .inl (cI, 6, .inl f_kind)), (o_size, .inl (cI, 6, .inl f_size)), (o_page, .inl (cI, 37, .inl f_page)), (o_trial, .inl (cI, 37, .inl f_trial))]
set_option maxHeartbeats 4000000 in
set_option maxRecDepth 100000 in
theorem c_X8_judge (l : Launch) (dC : Nat → ClassId) (dI : Nat → Nat → Nat) (cI cZ cG : ClassId) {N : Nat} (o : Nat) (o_text : Nat) (o_kind : Nat) (o_size : Nat) (o_readJar : Nat) (o_page : Nat) (o_trial : Nat) (o_book : Nat) (o_kept : Nat) (o_isKept : Nat) (o_tastedFrom : Nat) (o_tastedTo : Nat) (o_order : Nat) (o_spots : Nat) (o_gains : Nat) (o_value : Nat) (sz : Nat) (v_thrown : Int32) (v_textSize : Int32) (v_place : Int32) (v_jars : Int32) (v_readPlaces : Int32) (v_readJars : Int32) (v_acts : Int32) (v_tasted : Int32) (v_seed : Int64) (v_some : Int32) (v_rowMany : Int32) (v_rowWay : Int32) (v_stuffWhich : Int32) (v_stuffNear : Int32) (v_keptMany : Int32) (v_keptFirst : Int32) (v_restMany : Int32) (v_restFirst : Int32) (f_kind : Nat → Int32) (f_size : Nat → Int32) (f_page : Nat → Int32) (f_trial : Nat → Int32) (a1 : Int32) (a2 : Int64) {r0 : Int32} {n_thrown : Int32} {n_some : Int32} {n_trial : Nat → Int32} (hf : x8_judge N v_thrown v_jars v_some f_kind f_size f_page f_trial a1 a2 = some (r0, n_thrown, n_some, n_trial)) : Met l yX8_judge wsX8_judge rm_X8_judge (va_Pc [.ref o, .int a1, .long a2] (gW (dC, dI) vwCl (gT cI cZ cG) (w_X8_judge cI cZ cG o o_text o_kind o_size o_readJar o_page o_trial o_book o_kept o_isKept o_tastedFrom o_tastedTo o_order o_spots o_gains o_value v_thrown v_textSize v_place v_jars v_readPlaces v_readJars v_acts v_tasted v_seed v_some v_rowMany v_rowWay v_stuffWhich v_stuffNear v_keptMany v_keptFirst v_restMany v_restFirst f_kind f_size f_page f_trial) sz)) (va_Qi (fun r _ => r = r0) (gE (dC, dI) vwCl (gT cI cZ cG) (w_X8_judge cI cZ cG o o_text o_kind o_size o_readJar o_page o_trial o_book o_kept o_isKept o_tastedFrom o_tastedTo o_order o_spots o_gains o_value n_thrown v_textSize v_place v_jars v_readPlaces v_readJars v_acts v_tasted v_seed n_some v_rowMany v_rowWay v_stuffWhich v_stuffNear v_keptMany v_keptFirst v_restMany v_restFirst f_kind f_size f_page n_trial) (va_A (w_X8_judge cI cZ cG o o_text o_kind o_size o_readJar o_page o_trial o_book o_kept o_isKept o_tastedFrom o_tastedTo o_order o_spots o_gains o_value v_thrown v_textSize v_place v_jars v_readPlaces v_readJars v_acts v_tasted v_seed v_some v_rowMany v_rowWay v_stuffWhich v_stuffNear v_keptMany v_keptFirst v_restMany v_restFirst f_kind f_size f_page f_trial) sz)) (va_A (w_X8_judge cI cZ cG o o_text o_kind o_size o_readJar o_page o_trial o_book o_kept o_isKept o_tastedFrom o_tastedTo o_order o_spots o_gains o_value v_thrown v_textSize v_place v_jars v_readPlaces v_readJars v_acts v_tasted v_seed v_some v_rowMany v_rowWay v_stuffWhich v_stuffNear v_keptMany v_keptFirst v_restMany v_restFirst f_kind f_size f_page f_trial) sz)) 0 0 (va_A (w_X8_judge cI cZ cG o o_text o_kind o_size o_readJar o_page o_trial o_book o_kept o_isKept o_tastedFrom o_tastedTo o_order o_spots o_gains o_value v_thrown v_textSize v_place v_jars v_readPlaces v_readJars v_acts v_tasted v_seed v_some v_rowMany v_rowWay v_stuffWhich v_stuffNear v_keptMany v_keptFirst v_restMany v_restFirst f_kind f_size f_page f_trial) sz) := by
  refine Met.ofW (cc := cX8_judge) (maxL := 5) (ret := (some .int)) (by decide) rfl ?_
  intro p e s m args below meth c s₁ B hml hv
  obtain ⟨rfl, hv⟩ := hv
  obtain ⟨hsz, hP, hK, hN, hD0⟩ := hv
  have hx := B.exec
  have hb := B.bytes
  have hr := B.returns
  have hts := atoms_spec (ws := wsX8_judge) B.pre
  have hown : s.vm.findClass RX8 = some m.cls := findClass_of_methodNamed B.named
  have hlocks := B.notSynchronized
  have hiX8 : ∀ w ∈ u_ws RX8 TX8 33, w ∈ wsX8_judge := fun w h => List.mem_cons_of_mem _ (List.mem_append_right _ h)
  subst hsz
  have hD := hD0.self (sz := s.heap.size)
  generalize hAe : va_A (w_X8_judge cI cZ cG o o_text o_kind o_size o_readJar o_page o_trial o_book o_kept o_isKept o_tastedFrom o_tastedTo o_order o_spots o_gains o_value v_thrown v_textSize v_place v_jars v_readPlaces v_readJars v_acts v_tasted v_seed v_some v_rowMany v_rowWay v_stuffWhich v_stuffNear v_keptMany v_keptFirst v_restMany v_restFirst f_kind f_size f_page f_trial) s.heap.size = A at hD ⊢
  have hA : ∀ q : Nat, s.heap.size ≤ q → A q := fun q h => by rw [← hAe]; exact Or.inr h
  clear hD0
  have hS : va_S A s.heap s.heap [] := va_S.rf
  have hP : va_P (dC, dI) vwCl (w_X8_judge cI cZ cG o o_text o_kind o_size o_readJar o_page o_trial o_book o_kept o_isKept o_tastedFrom o_tastedTo o_order o_spots o_gains o_value v_thrown v_textSize v_place v_jars v_readPlaces v_readJars v_acts v_tasted v_seed v_some v_rowMany v_rowWay v_stuffWhich v_stuffNear v_keptMany v_keptFirst v_restMany v_restFirst f_kind f_size f_page f_trial) s.heap := hP
  obtain ⟨Q, hQ⟩ : ∃ Q : State → Prop, Q = MQ below (va_Qi (fun r _ => r = r0) (gE (dC, dI) vwCl (gT cI cZ cG) (w_X8_judge cI cZ cG o o_text o_kind o_size o_readJar o_page o_trial o_book o_kept o_isKept o_tastedFrom o_tastedTo o_order o_spots o_gains o_value n_thrown v_textSize v_place v_jars v_readPlaces v_readJars v_acts v_tasted v_seed n_some v_rowMany v_rowWay v_stuffWhich v_stuffNear v_keptMany v_keptFirst v_restMany v_restFirst f_kind f_size f_page n_trial) A) A) (([Value.ref o, Value.int a1, Value.long a2] : List Value).toArray) s 0 0 A := ⟨_, rfl⟩
  have hl := lv_entry ([.ref o, .int a1, .long a2]) (n := 5) (Nat.le_of_ble_eq_true rfl)
  rw [← hQ, lg_entry_eq]
  generalize (lg_sl ([.ref o, .int a1, .long a2]) ++ List.replicate (5 - (lg_sl ([.ref o, .int a1, .long a2])).length) Slot.unset).toArray = ls at hl ⊢
  have hl : lv_has ls 5 [(0, .ref o), (1, .int a1), (2, .long a2)] := hl
  generalize hH : s.heap = H at hP hS ⊢
  have hS : va_S A s.heap H [] := by rw [hH]; exact hS
  generalize hlc : ([] : List Loc) = locs at hS ⊢
  show W p l e rm_X8_judge s m (([Value.ref o, Value.int a1, Value.long a2] : List Value).toArray) below meth c H locs 0 0 Q (F0 m 0 ls [])
  have L44 : ∀ (n44 : Nat), ∀ (x4 : Int32) (y_thrown : Int32) (y_some : Int32) (y_trial : Nat → Int32) (H : Heap) (locs : List Loc) (ls : Array Slot), x8_judge_b44 N v_jars f_kind f_size f_page a1 a2 n44 x4 y_thrown y_some y_trial = some (r0, n_thrown, n_some, n_trial) → lv_has ls 5 [(0, .ref o), (1, .int a1), (2, .long a2), (4, .int x4)] → va_P (dC, dI) vwCl (w_X8_judge cI cZ cG o o_text o_kind o_size o_readJar o_page o_trial o_book o_kept o_isKept o_tastedFrom o_tastedTo o_order o_spots o_gains o_value y_thrown v_textSize v_place v_jars v_readPlaces v_readJars v_acts v_tasted v_seed y_some v_rowMany v_rowWay v_stuffWhich v_stuffNear v_keptMany v_keptFirst v_restMany v_restFirst f_kind f_size f_page y_trial) H → va_D A (w_X8_judge cI cZ cG o o_text o_kind o_size o_readJar o_page o_trial o_book o_kept o_isKept o_tastedFrom o_tastedTo o_order o_spots o_gains o_value y_thrown v_textSize v_place v_jars v_readPlaces v_readJars v_acts v_tasted v_seed y_some v_rowMany v_rowWay v_stuffWhich v_stuffNear v_keptMany v_keptFirst v_restMany v_restFirst f_kind f_size f_page y_trial) → va_S A s.heap H locs → W p l e rm_X8_judge s m (([Value.ref o, Value.int a1, Value.long a2] : List Value).toArray) below meth c H locs 0 0 Q (F0 m 44 ls []) := by
    intro n44
    induction n44 with
    | zero =>
      intro x4 y_thrown y_some y_trial H locs ls hf hl hP hD hS
      exact g_no hf
    | succ n44 ih44 =>
      intro x4 y_thrown y_some y_trial H locs ls hf hl hP hD hS
      unfold x8_judge_b44 at hf
      refine lv_iload hx hb dX8_judge_44 (lv_at hl 3 rfl) ?_
      refine lv_iload_n hx hb dX8_judge_46 rfl (lv_at hl 1 rfl) ?_
      refine lv_icmp_ge (tgt := 85) hx hb dX8_judge_47 (by decide) (fun c1 => ?_) (fun c1 => ?_)
      · have hf := g_pos c1 hf
        refine lv_bipush (v := (-9 : Int32)) hx hb dX8_judge_85 (by decide +kernel) ?_
        rw [hQ]
        cases hf
        exact W.iret hx hb hr (fun t ht hW => ⟨⟨_, (), rfl, rfl, by rw [ht]; exact hP, va_K.moved hW.alike hK, hD⟩, hS.F ht⟩) hS.2.2 dX8_judge_87
      · have hf := g_neg c1 hf
        refine lv_aload_n hx hb dX8_judge_50 rfl (lv_at hl 0 rfl) ?_
        refine lv_lload_n hx hb dX8_judge_51 rfl (lv_at hl 2 rfl) ?_
        refine lv_ldc2 (v := (1000 : Int64)) hx hb hown (hts (.constantLong RX8 208 (1000 : Int64)) (by decide +kernel)) dX8_judge_52 ?_
        refine lv_iload_n hx hb dX8_judge_55 rfl (lv_at hl 1 rfl) ?_
        refine lv_iconst (v := (1 : Int32)) hx hb dX8_judge_56 (by decide) ?_
        refine lv_isub hx hb dX8_judge_57 ?_
        refine lv_iload hx hb dX8_judge_58 (lv_at hl 3 rfl) ?_
        refine lv_isub hx hb dX8_judge_60 ?_
        obtain ⟨r2, hc3, hf⟩ := g_b1 hf
        refine g_rSl (As := [.long (1000 : Int64), .int ((a1 - (1 : Int32)) - x4)]) (rest := [.long a2, .ref o]) ⟨hx, hb, hml, hown, hts⟩ (c_X8_longPower l dC dI cI cZ cG    (1000 : Int64) ((a1 - (1 : Int32)) - x4) hc3) (va_cwS 2 hts gX8_judge_X8_longPower rfl rfl rfl (by decide +kernel) ⟨Nat.le_of_ble_eq_true rfl, Nat.le_of_ble_eq_true rfl⟩) hK hN (hP.sub [] rfl) rfl hl.1 rfl (Nat.le_of_ble_eq_true rfl) dX8_judge_61 ⟨Nat.zero_le _, Nat.zero_le _⟩ ?_
        obtain ⟨h4, hf⟩ := g_chk hf
        refine lv_ldiv hx hb dX8_judge_64 (gNzL_ne h4) ?_
        refine lv_ldc2 (v := (1000 : Int64)) hx hb hown (hts (.constantLong RX8 208 (1000 : Int64)) (by decide +kernel)) dX8_judge_65 ?_
        refine lv_lrem hx hb dX8_judge_68 (by decide) ?_
        refine lv_l2i hx hb dX8_judge_69 rfl ?_
        obtain ⟨r5, y6, hc7, hf⟩ := g_b2 hf
        refine g_wV (As := [.int (((a2 / r2) - (a2 / r2) / (1000 : Int64) * (1000 : Int64)).toInt32)]) (rest := []) (wr := [(o_page, .inl (cI, 37, .inl f_page))]) (wn := (w_X8_judge cI cZ cG o o_text o_kind o_size o_readJar o_page o_trial o_book o_kept o_isKept o_tastedFrom o_tastedTo o_order o_spots o_gains o_value y_thrown v_textSize v_place v_jars v_readPlaces v_readJars v_acts v_tasted v_seed y_some v_rowMany v_rowWay v_stuffWhich v_stuffNear v_keptMany v_keptFirst v_restMany v_restFirst f_kind f_size f_page y6)) ⟨hx, hb, hml, hown, hts⟩ (c_X8_does l dC dI cI cZ cG o o_text o_kind o_size o_readJar o_page o_trial o_book o_kept o_isKept o_tastedFrom o_tastedTo o_order o_spots o_gains o_value H.size  y_thrown v_textSize v_place v_jars v_readPlaces v_readJars v_acts v_tasted v_seed y_some v_rowMany v_rowWay v_stuffWhich v_stuffNear v_keptMany v_keptFirst v_restMany v_restFirst f_kind f_size y_trial (((a2 / r2) - (a2 / r2) / (1000 : Int64) * (1000 : Int64)).toInt32) hc7) (cwV 1 hts gX8_judge_X8_does rfl rfl rfl (by decide +kernel) ⟨Nat.le_of_ble_eq_true rfl, Nat.le_of_ble_eq_true rfl⟩) hK hN hP hD hS hA [0, 1, 2, 4] [3] [1, 2, 3, 0, 4] rfl rfl (by decide) rfl (by decide) (by decide) rfl (by decide) (va_recv hK hP (ci := 8) (q0 := 0) rfl rfl) rfl hl.1 rfl (Nat.le_of_ble_eq_true rfl) dX8_judge_70 ⟨Nat.zero_le _, Nat.zero_le _⟩ (fun H locs hP hD hS => ?_)
        refine lv_if_ne (tgt := 79) hx hb dX8_judge_73 (by decide) (fun c8 => ?_) (fun c8 => ?_)
        · have hf := g_neg c8 hf
          refine lv_iinc (v := (x4 + (1 : Int32))) (lv' := [(4, .int (x4 + (1 : Int32))), (0, .ref o), (1, .int a1), (2, .long a2)]) hx hb dX8_judge_79 hl (k := 3) rfl rfl (by decide) rfl (fun ls hl => ?_)
          refine lv_goto (tgt := 44) hx hb dX8_judge_82 (by decide) ?_
          exact ih44 (x4 + (1 : Int32)) y_thrown y_some y6 H locs ls hf (lv_sub hl [1, 2, 3, 0] rfl) hP hD hS
        · have hf := g_pos c8 hf
          refine lv_iload hx hb dX8_judge_76 (lv_at hl 3 rfl) ?_
          rw [hQ]
          cases hf
          exact W.iret hx hb hr (fun t ht hW => ⟨⟨_, (), rfl, rfl, by rw [ht]; exact hP, va_K.moved hW.alike hK, hD⟩, hS.F ht⟩) hS.2.2 dX8_judge_78
  unfold x8_judge at hf
  refine lv_aload_n hx hb dX8_judge_0 rfl (lv_at hl 0 rfl) ?_
  refine lv_iconst (v := (0 : Int32)) hx hb dX8_judge_1 (by decide) ?_
  refine va_put (D := (dC, dI)) (ci := 8) (v := .int (0 : Int32)) (ty := .int) (C := RX8) (T := TX8) (N := 33) hx hb hts hiX8 tyX8 tyX8_ok nmX8 hown hK hP hD hS 0 rfl rfl 0 (by decide) (hts (.fieldLink RX8 56 "GreenJarsModel" "thrown" "I") (by decide +kernel)) (fun _ h9 => h9) rfl (by decide +kernel) rfl rfl (Nat.le_of_ble_eq_true rfl) dX8_judge_2 (fun H locs hP hD hS => ?_)
  have hP : va_P (dC, dI) vwCl (w_X8_judge cI cZ cG o o_text o_kind o_size o_readJar o_page o_trial o_book o_kept o_isKept o_tastedFrom o_tastedTo o_order o_spots o_gains o_value (0 : Int32) v_textSize v_place v_jars v_readPlaces v_readJars v_acts v_tasted v_seed v_some v_rowMany v_rowWay v_stuffWhich v_stuffNear v_keptMany v_keptFirst v_restMany v_restFirst f_kind f_size f_page f_trial) H := hP
  have hD : va_D A (w_X8_judge cI cZ cG o o_text o_kind o_size o_readJar o_page o_trial o_book o_kept o_isKept o_tastedFrom o_tastedTo o_order o_spots o_gains o_value (0 : Int32) v_textSize v_place v_jars v_readPlaces v_readJars v_acts v_tasted v_seed v_some v_rowMany v_rowWay v_stuffWhich v_stuffNear v_keptMany v_keptFirst v_restMany v_restFirst f_kind f_size f_page f_trial) := hD
  refine lv_iload_n hx hb dX8_judge_5 rfl (lv_at hl 1 rfl) ?_
  refine lv_i2l hx hb dX8_judge_6 rfl ?_
  refine lv_lconst (v := (1 : Int64)) hx hb dX8_judge_7 (by decide) ?_
  refine lv_ldc2 (v := (4 : Int64)) hx hb hown (hts (.constantLong RX8 206 (4 : Int64)) (by decide +kernel)) dX8_judge_8 ?_
  obtain ⟨r9, hc10, hf⟩ := g_b1 hf
  refine g_rS (As := [.long a1.toInt64, .long (1 : Int64), .long (4 : Int64)]) (rest := []) ⟨hx, hb, hml, hown, hts⟩ (c_X8_in l dC dI cI cZ cG    a1.toInt64 (1 : Int64) (4 : Int64) hc10) (va_cwS 3 hts gX8_judge_X8_in rfl rfl rfl (by decide +kernel) ⟨Nat.le_of_ble_eq_true rfl, Nat.le_of_ble_eq_true rfl⟩) hK hN (hP.sub [] rfl) rfl hl.1 rfl (Nat.le_of_ble_eq_true rfl) dX8_judge_11 ⟨Nat.zero_le _, Nat.zero_le _⟩ ?_
  refine lv_if_eq (tgt := 34) hx hb dX8_judge_14 (by decide) (fun c11 => ?_) (fun c11 => ?_)
  · have hf := g_pos c11 hf
    refine lv_bipush (v := (-2 : Int32)) hx hb dX8_judge_34 (by decide +kernel) ?_
    rw [hQ]
    cases hf
    exact W.iret hx hb hr (fun t ht hW => ⟨⟨_, (), rfl, rfl, by rw [ht]; exact hP, va_K.moved hW.alike hK, hD⟩, hS.F ht⟩) hS.2.2 dX8_judge_36
  · have hf := g_neg c11 hf
    refine lv_lload_n hx hb dX8_judge_17 rfl (lv_at hl 2 rfl) ?_
    refine lv_lconst (v := (0 : Int64)) hx hb dX8_judge_18 (by decide) ?_
    refine lv_ldc2 (v := (1000 : Int64)) hx hb hown (hts (.constantLong RX8 208 (1000 : Int64)) (by decide +kernel)) dX8_judge_19 ?_
    refine lv_iload_n hx hb dX8_judge_22 rfl (lv_at hl 1 rfl) ?_
    obtain ⟨r12, hc13, hf⟩ := g_b1 hf
    refine g_rSl (As := [.long (1000 : Int64), .int a1]) (rest := [.long (0 : Int64), .long a2]) ⟨hx, hb, hml, hown, hts⟩ (c_X8_longPower l dC dI cI cZ cG    (1000 : Int64) a1 hc13) (va_cwS 2 hts gX8_judge_X8_longPower rfl rfl rfl (by decide +kernel) ⟨Nat.le_of_ble_eq_true rfl, Nat.le_of_ble_eq_true rfl⟩) hK hN (hP.sub [] rfl) rfl hl.1 rfl (Nat.le_of_ble_eq_true rfl) dX8_judge_23 ⟨Nat.zero_le _, Nat.zero_le _⟩ ?_
    refine lv_lconst (v := (1 : Int64)) hx hb dX8_judge_26 (by decide) ?_
    refine lv_lsub hx hb dX8_judge_27 ?_
    obtain ⟨r14, hc15, hf⟩ := g_b1 hf
    refine g_rS (As := [.long a2, .long (0 : Int64), .long (r12 - (1 : Int64))]) (rest := []) ⟨hx, hb, hml, hown, hts⟩ (c_X8_in l dC dI cI cZ cG    a2 (0 : Int64) (r12 - (1 : Int64)) hc15) (va_cwS 3 hts gX8_judge_X8_in rfl rfl rfl (by decide +kernel) ⟨Nat.le_of_ble_eq_true rfl, Nat.le_of_ble_eq_true rfl⟩) hK hN (hP.sub [] rfl) rfl hl.1 rfl (Nat.le_of_ble_eq_true rfl) dX8_judge_28 ⟨Nat.zero_le _, Nat.zero_le _⟩ ?_
    refine lv_if_ne (tgt := 37) hx hb dX8_judge_31 (by decide) (fun c16 => ?_) (fun c16 => ?_)
    · have hf := g_neg c16 hf
      refine lv_aload_n hx hb dX8_judge_37 rfl (lv_at hl 0 rfl) ?_
      obtain ⟨y17, y18, hc19, hf⟩ := g_b2 hf
      refine g_wVv (As := []) (rest := []) (wr := [(o_kind, .inl (cI, 6, .inl f_kind)), (o_size, .inl (cI, 6, .inl f_size))]) (wn := (w_X8_judge cI cZ cG o o_text o_kind o_size o_readJar o_page o_trial o_book o_kept o_isKept o_tastedFrom o_tastedTo o_order o_spots o_gains o_value (0 : Int32) v_textSize v_place v_jars v_readPlaces v_readJars v_acts v_tasted v_seed y17 v_rowMany v_rowWay v_stuffWhich v_stuffNear v_keptMany v_keptFirst v_restMany v_restFirst f_kind f_size f_page y18)) ⟨hx, hb, hml, hown, hts⟩ (c_X8_begin l dC dI cI cZ cG o o_text o_kind o_size o_readJar o_page o_trial o_book o_kept o_isKept o_tastedFrom o_tastedTo o_order o_spots o_gains o_value H.size  (0 : Int32) v_textSize v_place v_jars v_readPlaces v_readJars v_acts v_tasted v_seed v_some v_rowMany v_rowWay v_stuffWhich v_stuffNear v_keptMany v_keptFirst v_restMany v_restFirst f_page f_trial hc19) (cwV 0 hts gX8_judge_X8_begin rfl rfl rfl (by decide +kernel) ⟨Nat.le_of_ble_eq_true rfl, Nat.le_of_ble_eq_true rfl⟩) hK hN hP hD hS hA [0, 3, 4] [1, 2] [2, 0, 1, 3, 4] rfl rfl (by decide) rfl (by decide) (by decide) rfl (by decide) (va_recv hK hP (ci := 8) (q0 := 0) rfl rfl) rfl hl.1 rfl (Nat.le_of_ble_eq_true rfl) dX8_judge_38 ⟨Nat.zero_le _, Nat.zero_le _⟩ (fun H locs hP hD hS => ?_)
      refine lv_iconst (v := (0 : Int32)) hx hb dX8_judge_41 (by decide) ?_
      refine lv_istore (lv' := [(4, .int (0 : Int32)), (0, .ref o), (1, .int a1), (2, .long a2)]) hx hb dX8_judge_42 hl (by decide) rfl (fun ls hl => ?_)
      exact L44 N (0 : Int32) (0 : Int32) y17 y18 H locs ls hf (lv_sub hl [1, 2, 3, 0] rfl) hP hD hS
    · have hf := g_pos c16 hf
      refine lv_bipush (v := (-2 : Int32)) hx hb dX8_judge_34 (by decide +kernel) ?_
      rw [hQ]
      cases hf
      exact W.iret hx hb hr (fun t ht hW => ⟨⟨_, (), rfl, rfl, by rw [ht]; exact hP, va_K.moved hW.alike hK, hD⟩, hS.F ht⟩) hS.2.2 dX8_judge_36
abbrev rm_X8_ways : Room := { frames := 0, cells := 0, slots := 0, locals := 0 }
abbrev w_X8_ways (cI cZ cG : ClassId) : va_W := []
set_option maxHeartbeats 4000000 in
set_option maxRecDepth 100000 in
theorem c_X8_ways (l : Launch) (dC : Nat → ClassId) (dI : Nat → Nat → Nat) (cI cZ cG : ClassId) {N : Nat} (a0 : Int32) {r0 : Int32} (hf : x8_ways N a0 = some r0) : Met l yX8_ways wsX8_ways rm_X8_ways (va_Pc [.int a0] (gR (dC, dI) vwCl (gT cI cZ cG) (w_X8_ways cI cZ cG))) (vp_Si (fun r => r = r0)) 0 0 (fun _ => False) := by
  refine Met.ofW (cc := cX8_ways) (maxL := 3) (ret := (some .int)) (by decide) rfl ?_
  intro p e s m args below meth c s₁ B hml hv
  obtain ⟨rfl, hv⟩ := hv
  obtain ⟨hP, hK, hN⟩ := hv
  have hx := B.exec
  have hb := B.bytes
  have hr := B.returns
  have hts := atoms_spec (ws := wsX8_ways) B.pre
  have hown : s.vm.findClass RX8 = some m.cls := findClass_of_methodNamed B.named
  have hlocks := B.notSynchronized
  obtain ⟨Q, hQ⟩ : ∃ Q : State → Prop, Q = MQ below (vp_Si (fun r => r = r0)) (([Value.int a0] : List Value).toArray) s 0 0 (fun _ => False) := ⟨_, rfl⟩
  have hl := lv_entry ([.int a0]) (n := 3) (Nat.le_of_ble_eq_true rfl)
  rw [← hQ, lg_entry_eq]
  generalize (lg_sl ([.int a0]) ++ List.replicate (3 - (lg_sl ([.int a0])).length) Slot.unset).toArray = ls at hl ⊢
  have hl : lv_has ls 3 [(0, .int a0)] := hl
  show W p l e rm_X8_ways s m (([Value.int a0] : List Value).toArray) below meth c s.heap [] 0 0 Q (F0 m 0 ls [])
  have L4 : ∀ (n4 : Nat), ∀ (x1 : Int32) (x2 : Int32) (ls : Array Slot), x8_ways_b4 N a0 n4 x1 x2 = some r0 → lv_has ls 3 [(0, .int a0), (1, .int x1), (2, .int x2)] → W p l e rm_X8_ways s m (([Value.int a0] : List Value).toArray) below meth c s.heap [] 0 0 Q (F0 m 4 ls []) := by
    intro n4
    induction n4 with
    | zero =>
      intro x1 x2 ls hf hl
      exact g_no hf
    | succ n4 ih4 =>
      intro x1 x2 ls hf hl
      unfold x8_ways_b4 at hf
      refine lv_iload_n hx hb dX8_ways_4 rfl (lv_at hl 2 rfl) ?_
      refine lv_iload_n hx hb dX8_ways_5 rfl (lv_at hl 0 rfl) ?_
      refine lv_icmp_gt (tgt := 19) hx hb dX8_ways_6 (by decide) (fun c1 => ?_) (fun c1 => ?_)
      · have hf := g_pos c1 hf
        refine lv_iload_n hx hb dX8_ways_19 rfl (lv_at hl 1 rfl) ?_
        rw [hQ]
        exact W.iret (v := x1) hx hb hr (fun t ht hW => ⟨_, rfl, Option.some.inj hf, ht⟩) (fun q h => by cases h) dX8_ways_20
      · have hf := g_neg c1 hf
        refine lv_iload_n hx hb dX8_ways_9 rfl (lv_at hl 1 rfl) ?_
        refine lv_iload_n hx hb dX8_ways_10 rfl (lv_at hl 2 rfl) ?_
        refine lv_imul hx hb dX8_ways_11 ?_
        refine lv_istore_n (lv' := [(1, .int (x1 * x2)), (0, .int a0), (2, .int x2)]) hx hb dX8_ways_12 rfl hl (by decide) rfl (fun ls hl => ?_)
        refine lv_iinc (v := (x2 + (1 : Int32))) (lv' := [(2, .int (x2 + (1 : Int32))), (1, .int (x1 * x2)), (0, .int a0)]) hx hb dX8_ways_13 hl (k := 2) rfl rfl (by decide) rfl (fun ls hl => ?_)
        refine lv_goto (tgt := 4) hx hb dX8_ways_16 (by decide) ?_
        exact ih4 (x1 * x2) (x2 + (1 : Int32)) ls hf (lv_sub hl [2, 1, 0] rfl)
  unfold x8_ways at hf
  refine lv_iconst (v := (1 : Int32)) hx hb dX8_ways_0 (by decide) ?_
  refine lv_istore_n (lv' := [(1, .int (1 : Int32)), (0, .int a0)]) hx hb dX8_ways_1 rfl hl (by decide) rfl (fun ls hl => ?_)
  refine lv_iconst (v := (2 : Int32)) hx hb dX8_ways_2 (by decide) ?_
  refine lv_istore_n (lv' := [(2, .int (2 : Int32)), (1, .int (1 : Int32)), (0, .int a0)]) hx hb dX8_ways_3 rfl hl (by decide) rfl (fun ls hl => ?_)
  exact L4 N (1 : Int32) (2 : Int32) ls hf (lv_sub hl [2, 1, 0] rfl)
abbrev rm_X8_divisor : Room := { frames := 0, cells := 0, slots := 0, locals := 0 }
abbrev w_X8_divisor (cI cZ cG : ClassId) : va_W := []
set_option maxHeartbeats 4000000 in
set_option maxRecDepth 100000 in
theorem c_X8_divisor (l : Launch) (dC : Nat → ClassId) (dI : Nat → Nat → Nat) (cI cZ cG : ClassId) {N : Nat} (a0 : Int32) (a1 : Int32) {r0 : Int32} (hf : x8_divisor N a0 a1 = some r0) : Met l yX8_divisor wsX8_divisor rm_X8_divisor (va_Pc [.int a0, .int a1] (gR (dC, dI) vwCl (gT cI cZ cG) (w_X8_divisor cI cZ cG))) (vp_Si (fun r => r = r0)) 0 0 (fun _ => False) := by
  refine Met.ofW (cc := cX8_divisor) (maxL := 5) (ret := (some .int)) (by decide) rfl ?_
  intro p e s m args below meth c s₁ B hml hv
  obtain ⟨rfl, hv⟩ := hv
  obtain ⟨hP, hK, hN⟩ := hv
  have hx := B.exec
  have hb := B.bytes
  have hr := B.returns
  have hts := atoms_spec (ws := wsX8_divisor) B.pre
  have hown : s.vm.findClass RX8 = some m.cls := findClass_of_methodNamed B.named
  have hlocks := B.notSynchronized
  obtain ⟨Q, hQ⟩ : ∃ Q : State → Prop, Q = MQ below (vp_Si (fun r => r = r0)) (([Value.int a0, Value.int a1] : List Value).toArray) s 0 0 (fun _ => False) := ⟨_, rfl⟩
  have hl := lv_entry ([.int a0, .int a1]) (n := 5) (Nat.le_of_ble_eq_true rfl)
  rw [← hQ, lg_entry_eq]
  generalize (lg_sl ([.int a0, .int a1]) ++ List.replicate (5 - (lg_sl ([.int a0, .int a1])).length) Slot.unset).toArray = ls at hl ⊢
  have hl : lv_has ls 5 [(0, .int a0), (1, .int a1)] := hl
  show W p l e rm_X8_divisor s m (([Value.int a0, Value.int a1] : List Value).toArray) below meth c s.heap [] 0 0 Q (F0 m 0 ls [])
  have L13 : ∀ (n13 : Nat), ∀ (x2 : Int32) (x3 : Int32) (ls : Array Slot), x8_divisor_b13 N a0 a1 n13 x2 x3 = some r0 → lv_has ls 5 [(2, .int x2), (3, .int x3)] → W p l e rm_X8_divisor s m (([Value.int a0, Value.int a1] : List Value).toArray) below meth c s.heap [] 0 0 Q (F0 m 13 ls []) := by
    intro n13
    induction n13 with
    | zero =>
      intro x2 x3 ls hf hl
      exact g_no hf
    | succ n13 ih13 =>
      intro x2 x3 ls hf hl
      unfold x8_divisor_b13 at hf
      refine lv_iload_n hx hb dX8_divisor_13 rfl (lv_at hl 1 rfl) ?_
      refine lv_if_eq (tgt := 30) hx hb dX8_divisor_14 (by decide) (fun c1 => ?_) (fun c1 => ?_)
      · have hf := g_pos c1 hf
        refine lv_iload_n hx hb dX8_divisor_30 rfl (lv_at hl 0 rfl) ?_
        rw [hQ]
        exact W.iret (v := x2) hx hb hr (fun t ht hW => ⟨_, rfl, Option.some.inj hf, ht⟩) (fun q h => by cases h) dX8_divisor_31
      · have hf := g_neg c1 hf
        refine lv_iload_n hx hb dX8_divisor_17 rfl (lv_at hl 0 rfl) ?_
        refine lv_iload_n hx hb dX8_divisor_18 rfl (lv_at hl 1 rfl) ?_
        obtain ⟨h2, hf⟩ := g_chk hf
        refine lv_irem hx hb dX8_divisor_19 (gNz_ne h2) ?_
        refine lv_istore (lv' := [(4, .int (x2 - x2 / x3 * x3)), (2, .int x2), (3, .int x3)]) hx hb dX8_divisor_20 hl (by decide) rfl (fun ls hl => ?_)
        refine lv_iload_n hx hb dX8_divisor_22 rfl (lv_at hl 2 rfl) ?_
        refine lv_istore_n (lv' := [(2, .int x3), (4, .int (x2 - x2 / x3 * x3)), (3, .int x3)]) hx hb dX8_divisor_23 rfl hl (by decide) rfl (fun ls hl => ?_)
        refine lv_iload hx hb dX8_divisor_24 (lv_at hl 1 rfl) ?_
        refine lv_istore_n (lv' := [(3, .int (x2 - x2 / x3 * x3)), (2, .int x3), (4, .int (x2 - x2 / x3 * x3))]) hx hb dX8_divisor_26 rfl hl (by decide) rfl (fun ls hl => ?_)
        refine lv_goto (tgt := 13) hx hb dX8_divisor_27 (by decide) ?_
        exact ih13 x3 (x2 - x2 / x3 * x3) ls hf (lv_sub hl [1, 0] rfl)
  unfold x8_divisor at hf
  refine lv_iload_n hx hb dX8_divisor_0 rfl (lv_at hl 0 rfl) ?_
  refine lv_if_ge (tgt := 9) hx hb dX8_divisor_1 (by decide) (fun c3 => ?_) (fun c3 => ?_)
  · have hf := g_pos c3 hf
    refine lv_iload_n hx hb dX8_divisor_9 rfl (lv_at hl 0 rfl) ?_
    refine lv_istore_n (lv' := [(2, .int a0), (0, .int a0), (1, .int a1)]) hx hb dX8_divisor_10 rfl hl (by decide) rfl (fun ls hl => ?_)
    refine lv_iload_n hx hb dX8_divisor_11 rfl (lv_at hl 2 rfl) ?_
    refine lv_istore_n (lv' := [(3, .int a1), (2, .int a0), (0, .int a0), (1, .int a1)]) hx hb dX8_divisor_12 rfl hl (by decide) rfl (fun ls hl => ?_)
    exact L13 N a0 a1 ls hf (lv_sub hl [1, 0] rfl)
  · have hf := g_neg c3 hf
    refine lv_iload_n hx hb dX8_divisor_4 rfl (lv_at hl 0 rfl) ?_
    refine lv_ineg hx hb dX8_divisor_5 ?_
    refine lv_goto (tgt := 10) hx hb dX8_divisor_6 (by decide) ?_
    refine lv_istore_n (lv' := [(2, .int (-a0)), (0, .int a0), (1, .int a1)]) hx hb dX8_divisor_10 rfl hl (by decide) rfl (fun ls hl => ?_)
    refine lv_iload_n hx hb dX8_divisor_11 rfl (lv_at hl 2 rfl) ?_
    refine lv_istore_n (lv' := [(3, .int a1), (2, .int (-a0)), (0, .int a0), (1, .int a1)]) hx hb dX8_divisor_12 rfl hl (by decide) rfl (fun ls hl => ?_)
    exact L13 N (-a0) a1 ls hf (lv_sub hl [1, 0] rfl)
abbrev rm_X8_fraction : Room := { frames := 1, cells := 0, slots := 0, locals := 24 }
abbrev w_X8_fraction (cI cZ cG : ClassId) : va_W := []
set_option maxHeartbeats 4000000 in
set_option maxRecDepth 100000 in
theorem c_X8_fraction (l : Launch) (dC : Nat → ClassId) (dI : Nat → Nat → Nat) (cI cZ cG : ClassId) {N : Nat} (a0 : Int32) (a1 : Int32) (a2 : Int32) {r0 : Int32} (hf : x8_fraction N a0 a1 a2 = some r0) : Met l yX8_fraction wsX8_fraction rm_X8_fraction (va_Pc [.int a0, .int a1, .int a2] (gR (dC, dI) vwCl (gT cI cZ cG) (w_X8_fraction cI cZ cG))) (vp_Si (fun r => r = r0)) 0 0 (fun _ => False) := by
  refine Met.ofW (cc := cX8_fraction) (maxL := 4) (ret := (some .int)) (by decide) rfl ?_
  intro p e s m args below meth c s₁ B hml hv
  obtain ⟨rfl, hv⟩ := hv
  obtain ⟨hP, hK, hN⟩ := hv
  have hx := B.exec
  have hb := B.bytes
  have hr := B.returns
  have hts := atoms_spec (ws := wsX8_fraction) B.pre
  have hown : s.vm.findClass RX8 = some m.cls := findClass_of_methodNamed B.named
  have hlocks := B.notSynchronized
  obtain ⟨Q, hQ⟩ : ∃ Q : State → Prop, Q = MQ below (vp_Si (fun r => r = r0)) (([Value.int a0, Value.int a1, Value.int a2] : List Value).toArray) s 0 0 (fun _ => False) := ⟨_, rfl⟩
  have hl := lv_entry ([.int a0, .int a1, .int a2]) (n := 4) (Nat.le_of_ble_eq_true rfl)
  rw [← hQ, lg_entry_eq]
  generalize (lg_sl ([.int a0, .int a1, .int a2]) ++ List.replicate (4 - (lg_sl ([.int a0, .int a1, .int a2])).length) Slot.unset).toArray = ls at hl ⊢
  have hl : lv_has ls 4 [(0, .int a0), (1, .int a1), (2, .int a2)] := hl
  show W p l e rm_X8_fraction s m (([Value.int a0, Value.int a1, Value.int a2] : List Value).toArray) below meth c s.heap [] 0 0 Q (F0 m 0 ls [])
  unfold x8_fraction at hf
  refine lv_iload_n hx hb dX8_fraction_0 rfl (lv_at hl 0 rfl) ?_
  refine lv_iload_n hx hb dX8_fraction_1 rfl (lv_at hl 1 rfl) ?_
  obtain ⟨r1, hc2, hf⟩ := g_b1 hf
  refine g_rS (As := [.int a0, .int a1]) (rest := []) ⟨hx, hb, hml, hown, hts⟩ (c_X8_divisor l dC dI cI cZ cG    a0 a1 hc2) (va_cwS 2 hts gX8_fraction_X8_divisor rfl rfl rfl (by decide +kernel) ⟨Nat.le_of_ble_eq_true rfl, Nat.le_of_ble_eq_true rfl⟩) hK hN (hP.sub [] rfl) rfl hl.1 rfl (Nat.le_of_ble_eq_true rfl) dX8_fraction_2 ⟨Nat.zero_le _, Nat.zero_le _⟩ ?_
  refine lv_istore_n (lv' := [(3, .int r1), (0, .int a0), (1, .int a1), (2, .int a2)]) hx hb dX8_fraction_5 rfl hl (by decide) rfl (fun ls hl => ?_)
  refine lv_iload_n hx hb dX8_fraction_6 rfl (lv_at hl 3 rfl) ?_
  refine lv_if_eq (tgt := 16) hx hb dX8_fraction_7 (by decide) (fun c3 => ?_) (fun c3 => ?_)
  · have hf := g_pos c3 hf
    refine lv_iload_n hx hb dX8_fraction_16 rfl (lv_at hl 2 rfl) ?_
    refine lv_iload_n hx hb dX8_fraction_17 rfl (lv_at hl 0 rfl) ?_
    obtain ⟨h4, hf⟩ := g_chk hf
    refine lv_idiv hx hb dX8_fraction_18 (gNz_ne h4) ?_
    rw [hQ]
    exact W.iret (v := (a1 / r1)) hx hb hr (fun t ht hW => ⟨_, rfl, Option.some.inj hf, ht⟩) (fun q h => by cases h) dX8_fraction_19
  · have hf := g_neg c3 hf
    refine lv_iload_n hx hb dX8_fraction_10 rfl (lv_at hl 1 rfl) ?_
    refine lv_iload_n hx hb dX8_fraction_11 rfl (lv_at hl 0 rfl) ?_
    obtain ⟨h5, hf⟩ := g_chk hf
    refine lv_idiv hx hb dX8_fraction_12 (gNz_ne h5) ?_
    refine lv_goto (tgt := 19) hx hb dX8_fraction_13 (by decide) ?_
    rw [hQ]
    exact W.iret (v := (a0 / r1)) hx hb hr (fun t ht hW => ⟨_, rfl, Option.some.inj hf, ht⟩) (fun q h => by cases h) dX8_fraction_19
abbrev rm_X8_seenBy : Room := { frames := 4, cells := 0, slots := 0, locals := 94 }
abbrev w_X8_seenBy (cI cZ cG : ClassId) (o : Nat) (o_text : Nat) (o_kind : Nat) (o_size : Nat) (o_readJar : Nat) (o_page : Nat) (o_trial : Nat) (o_book : Nat) (o_kept : Nat) (o_isKept : Nat) (o_tastedFrom : Nat) (o_tastedTo : Nat) (o_order : Nat) (o_spots : Nat) (o_gains : Nat) (o_value : Nat) (v_thrown : Int32) (v_textSize : Int32) (v_place : Int32) (v_jars : Int32) (v_readPlaces : Int32) (v_readJars : Int32) (v_acts : Int32) (v_tasted : Int32) (v_seed : Int64) (v_some : Int32) (v_rowMany : Int32) (v_rowWay : Int32) (v_stuffWhich : Int32) (v_stuffNear : Int32) (v_keptMany : Int32) (v_keptFirst : Int32) (v_restMany : Int32) (v_restFirst : Int32) (f_kind : Nat → Int32) (f_page : Nat → Int32) : va_W := [(o, .inr (8, [.int v_thrown, .ref o_text, .int v_textSize, .int v_place, .int v_jars, .ref o_kind, .ref o_size, .int v_readPlaces, .int v_readJars, .ref o_readJar, .ref o_page, .ref o_trial, .ref o_book, .int v_acts, .ref o_kept, .ref o_isKept, .int v_tasted, .ref o_tastedFrom, .ref o_tastedTo, .long v_seed, .int v_some, .ref o_order, .ref o_spots, .int v_rowMany, .int v_rowWay, .int v_stuffWhich, .int v_stuffNear, .int v_keptMany, .int v_keptFirst, .int v_restMany, .int v_restFirst, .ref o_gains, .ref o_value])), (o_kind, .inl (cI, 6, .inl f_kind)), (o_page, .inl (cI, 37, .inl f_page))]
set_option maxHeartbeats 4000000 in
set_option maxRecDepth 100000 in
theorem c_X8_seenBy (l : Launch) (dC : Nat → ClassId) (dI : Nat → Nat → Nat) (cI cZ cG : ClassId) {N : Nat} (o : Nat) (o_text : Nat) (o_kind : Nat) (o_size : Nat) (o_readJar : Nat) (o_page : Nat) (o_trial : Nat) (o_book : Nat) (o_kept : Nat) (o_isKept : Nat) (o_tastedFrom : Nat) (o_tastedTo : Nat) (o_order : Nat) (o_spots : Nat) (o_gains : Nat) (o_value : Nat) (sz : Nat) (v_thrown : Int32) (v_textSize : Int32) (v_place : Int32) (v_jars : Int32) (v_readPlaces : Int32) (v_readJars : Int32) (v_acts : Int32) (v_tasted : Int32) (v_seed : Int64) (v_some : Int32) (v_rowMany : Int32) (v_rowWay : Int32) (v_stuffWhich : Int32) (v_stuffNear : Int32) (v_keptMany : Int32) (v_keptFirst : Int32) (v_restMany : Int32) (v_restFirst : Int32) (f_kind : Nat → Int32) (f_page : Nat → Int32) (a1 : Int32) {r0 : Int32} {n_some : Int32} (hf : x8_seenBy N v_jars v_some f_kind f_page a1 = some (r0, n_some)) : Met l yX8_seenBy wsX8_seenBy rm_X8_seenBy (va_Pc [.ref o, .int a1] (gW (dC, dI) vwCl (gT cI cZ cG) (w_X8_seenBy cI cZ cG o o_text o_kind o_size o_readJar o_page o_trial o_book o_kept o_isKept o_tastedFrom o_tastedTo o_order o_spots o_gains o_value v_thrown v_textSize v_place v_jars v_readPlaces v_readJars v_acts v_tasted v_seed v_some v_rowMany v_rowWay v_stuffWhich v_stuffNear v_keptMany v_keptFirst v_restMany v_restFirst f_kind f_page) sz)) (va_Qi (fun r _ => r = r0) (gE (dC, dI) vwCl (gT cI cZ cG) (w_X8_seenBy cI cZ cG o o_text o_kind o_size o_readJar o_page o_trial o_book o_kept o_isKept o_tastedFrom o_tastedTo o_order o_spots o_gains o_value v_thrown v_textSize v_place v_jars v_readPlaces v_readJars v_acts v_tasted v_seed n_some v_rowMany v_rowWay v_stuffWhich v_stuffNear v_keptMany v_keptFirst v_restMany v_restFirst f_kind f_page) (va_A (w_X8_seenBy cI cZ cG o o_text o_kind o_size o_readJar o_page o_trial o_book o_kept o_isKept o_tastedFrom o_tastedTo o_order o_spots o_gains o_value v_thrown v_textSize v_place v_jars v_readPlaces v_readJars v_acts v_tasted v_seed v_some v_rowMany v_rowWay v_stuffWhich v_stuffNear v_keptMany v_keptFirst v_restMany v_restFirst f_kind f_page) sz)) (va_A (w_X8_seenBy cI cZ cG o o_text o_kind o_size o_readJar o_page o_trial o_book o_kept o_isKept o_tastedFrom o_tastedTo o_order o_spots o_gains o_value v_thrown v_textSize v_place v_jars v_readPlaces v_readJars v_acts v_tasted v_seed v_some v_rowMany v_rowWay v_stuffWhich v_stuffNear v_keptMany v_keptFirst v_restMany v_restFirst f_kind f_page) sz)) 0 0 (va_A (w_X8_seenBy cI cZ cG o o_text o_kind o_size o_readJar o_page o_trial o_book o_kept o_isKept o_tastedFrom o_tastedTo o_order o_spots o_gains o_value v_thrown v_textSize v_place v_jars v_readPlaces v_readJars v_acts v_tasted v_seed v_some v_rowMany v_rowWay v_stuffWhich v_stuffNear v_keptMany v_keptFirst v_restMany v_restFirst f_kind f_page) sz) := by
  refine Met.ofW (cc := cX8_seenBy) (maxL := 5) (ret := (some .int)) (by decide) rfl ?_
  intro p e s m args below meth c s₁ B hml hv
  obtain ⟨rfl, hv⟩ := hv
  obtain ⟨hsz, hP, hK, hN, hD0⟩ := hv
  have hx := B.exec
  have hb := B.bytes
  have hr := B.returns
  have hts := atoms_spec (ws := wsX8_seenBy) B.pre
  have hown : s.vm.findClass RX8 = some m.cls := findClass_of_methodNamed B.named
  have hlocks := B.notSynchronized
  have hiX8 : ∀ w ∈ u_ws RX8 TX8 33, w ∈ wsX8_seenBy := fun w h => List.mem_cons_of_mem _ (List.mem_append_right _ h)
  subst hsz
  have hD := hD0.self (sz := s.heap.size)
  generalize hAe : va_A (w_X8_seenBy cI cZ cG o o_text o_kind o_size o_readJar o_page o_trial o_book o_kept o_isKept o_tastedFrom o_tastedTo o_order o_spots o_gains o_value v_thrown v_textSize v_place v_jars v_readPlaces v_readJars v_acts v_tasted v_seed v_some v_rowMany v_rowWay v_stuffWhich v_stuffNear v_keptMany v_keptFirst v_restMany v_restFirst f_kind f_page) s.heap.size = A at hD ⊢
  have hA : ∀ q : Nat, s.heap.size ≤ q → A q := fun q h => by rw [← hAe]; exact Or.inr h
  clear hD0
  have hS : va_S A s.heap s.heap [] := va_S.rf
  have hP : va_P (dC, dI) vwCl (w_X8_seenBy cI cZ cG o o_text o_kind o_size o_readJar o_page o_trial o_book o_kept o_isKept o_tastedFrom o_tastedTo o_order o_spots o_gains o_value v_thrown v_textSize v_place v_jars v_readPlaces v_readJars v_acts v_tasted v_seed v_some v_rowMany v_rowWay v_stuffWhich v_stuffNear v_keptMany v_keptFirst v_restMany v_restFirst f_kind f_page) s.heap := hP
  obtain ⟨Q, hQ⟩ : ∃ Q : State → Prop, Q = MQ below (va_Qi (fun r _ => r = r0) (gE (dC, dI) vwCl (gT cI cZ cG) (w_X8_seenBy cI cZ cG o o_text o_kind o_size o_readJar o_page o_trial o_book o_kept o_isKept o_tastedFrom o_tastedTo o_order o_spots o_gains o_value v_thrown v_textSize v_place v_jars v_readPlaces v_readJars v_acts v_tasted v_seed n_some v_rowMany v_rowWay v_stuffWhich v_stuffNear v_keptMany v_keptFirst v_restMany v_restFirst f_kind f_page) A) A) (([Value.ref o, Value.int a1] : List Value).toArray) s 0 0 A := ⟨_, rfl⟩
  have hl := lv_entry ([.ref o, .int a1]) (n := 5) (Nat.le_of_ble_eq_true rfl)
  rw [← hQ, lg_entry_eq]
  generalize (lg_sl ([.ref o, .int a1]) ++ List.replicate (5 - (lg_sl ([.ref o, .int a1])).length) Slot.unset).toArray = ls at hl ⊢
  have hl : lv_has ls 5 [(0, .ref o), (1, .int a1)] := hl
  generalize hH : s.heap = H at hP hS ⊢
  have hS : va_S A s.heap H [] := by rw [hH]; exact hS
  generalize hlc : ([] : List Loc) = locs at hS ⊢
  show W p l e rm_X8_seenBy s m (([Value.ref o, Value.int a1] : List Value).toArray) below meth c H locs 0 0 Q (F0 m 0 ls [])
  have L9 : ∀ (n9 : Nat), ∀ (x2 : Int32) (x3 : Int32) (y_some : Int32) (H : Heap) (locs : List Loc) (ls : Array Slot), x8_seenBy_b9 N v_jars f_kind f_page a1 n9 x2 x3 y_some = some (r0, n_some) → lv_has ls 5 [(0, .ref o), (2, .int x2), (3, .int x3)] → va_P (dC, dI) vwCl (w_X8_seenBy cI cZ cG o o_text o_kind o_size o_readJar o_page o_trial o_book o_kept o_isKept o_tastedFrom o_tastedTo o_order o_spots o_gains o_value v_thrown v_textSize v_place v_jars v_readPlaces v_readJars v_acts v_tasted v_seed y_some v_rowMany v_rowWay v_stuffWhich v_stuffNear v_keptMany v_keptFirst v_restMany v_restFirst f_kind f_page) H → va_D A (w_X8_seenBy cI cZ cG o o_text o_kind o_size o_readJar o_page o_trial o_book o_kept o_isKept o_tastedFrom o_tastedTo o_order o_spots o_gains o_value v_thrown v_textSize v_place v_jars v_readPlaces v_readJars v_acts v_tasted v_seed y_some v_rowMany v_rowWay v_stuffWhich v_stuffNear v_keptMany v_keptFirst v_restMany v_restFirst f_kind f_page) → va_S A s.heap H locs → W p l e rm_X8_seenBy s m (([Value.ref o, Value.int a1] : List Value).toArray) below meth c H locs 0 0 Q (F0 m 9 ls []) := by
    intro n9
    induction n9 with
    | zero =>
      intro x2 x3 y_some H locs ls hf hl hP hD hS
      exact g_no hf
    | succ n9 ih9 =>
      have J44 : ∀ (x3 : Int32) (t0 : Int32) (t1 : Int32) (y_some : Int32) (H : Heap) (locs : List Loc) (ls : Array Slot), x8_seenBy_b44 N v_jars f_kind f_page a1 (x8_seenBy_b9 N v_jars f_kind f_page a1 n9) x3 t0 t1 y_some = some (r0, n_some) → lv_has ls 5 [(0, .ref o), (3, .int x3)] → va_P (dC, dI) vwCl (w_X8_seenBy cI cZ cG o o_text o_kind o_size o_readJar o_page o_trial o_book o_kept o_isKept o_tastedFrom o_tastedTo o_order o_spots o_gains o_value v_thrown v_textSize v_place v_jars v_readPlaces v_readJars v_acts v_tasted v_seed y_some v_rowMany v_rowWay v_stuffWhich v_stuffNear v_keptMany v_keptFirst v_restMany v_restFirst f_kind f_page) H → va_D A (w_X8_seenBy cI cZ cG o o_text o_kind o_size o_readJar o_page o_trial o_book o_kept o_isKept o_tastedFrom o_tastedTo o_order o_spots o_gains o_value v_thrown v_textSize v_place v_jars v_readPlaces v_readJars v_acts v_tasted v_seed y_some v_rowMany v_rowWay v_stuffWhich v_stuffNear v_keptMany v_keptFirst v_restMany v_restFirst f_kind f_page) → va_S A s.heap H locs → W p l e rm_X8_seenBy s m (([Value.ref o, Value.int a1] : List Value).toArray) below meth c H locs 0 0 Q (F0 m 44 ls [.int t1, .int t0]) := by
        intro x3 t0 t1 y_some H locs ls hf hl hP hD hS
        unfold x8_seenBy_b44 at hf
        refine lv_ior hx hb dX8_seenBy_44 ?_
        refine lv_istore_n (lv' := [(2, .int (t0 ||| t1)), (0, .ref o), (3, .int x3)]) hx hb dX8_seenBy_45 rfl hl (by decide) rfl (fun ls hl => ?_)
        refine lv_iinc (v := (x3 + (1 : Int32))) (lv' := [(3, .int (x3 + (1 : Int32))), (2, .int (t0 ||| t1)), (0, .ref o)]) hx hb dX8_seenBy_46 hl (k := 2) rfl rfl (by decide) rfl (fun ls hl => ?_)
        refine lv_goto (tgt := 9) hx hb dX8_seenBy_49 (by decide) ?_
        exact ih9 (t0 ||| t1) (x3 + (1 : Int32)) y_some H locs ls hf (lv_sub hl [2, 1, 0] rfl) hP hD hS
      intro x2 x3 y_some H locs ls hf hl hP hD hS
      unfold x8_seenBy_b9 at hf
      refine lv_iload_n hx hb dX8_seenBy_9 rfl (lv_at hl 2 rfl) ?_
      refine lv_aload_n hx hb dX8_seenBy_10 rfl (lv_at hl 0 rfl) ?_
      refine va_get (D := (dC, dI)) (ci := 8) (v := .int v_jars) (C := RX8) (T := TX8) (N := 33) hx hb hts hiX8 hown hK hP 0 rfl rfl 4 (by decide) (hts (.fieldLink RX8 60 "GreenJarsModel" "jars" "I") (by decide +kernel)) (fun _ h9 => h9) rfl dX8_seenBy_11 ?_
      refine lv_icmp_ge (tgt := 52) hx hb dX8_seenBy_14 (by decide) (fun c1 => ?_) (fun c1 => ?_)
      · have hf := g_pos c1 hf
        refine lv_aload_n hx hb dX8_seenBy_52 rfl (lv_at hl 0 rfl) ?_
        refine lv_bipush (v := (63 : Int32)) hx hb dX8_seenBy_53 (by decide +kernel) ?_
        refine va_put (D := (dC, dI)) (ci := 8) (v := .int (63 : Int32)) (ty := .int) (C := RX8) (T := TX8) (N := 33) hx hb hts hiX8 tyX8 tyX8_ok nmX8 hown hK hP hD hS 0 rfl rfl 20 (by decide) (hts (.fieldLink RX8 109 "GreenJarsModel" "some" "I") (by decide +kernel)) (fun _ h9 => h9) rfl (by decide +kernel) rfl rfl (Nat.le_of_ble_eq_true rfl) dX8_seenBy_55 (fun H locs hP hD hS => ?_)
        have hP : va_P (dC, dI) vwCl (w_X8_seenBy cI cZ cG o o_text o_kind o_size o_readJar o_page o_trial o_book o_kept o_isKept o_tastedFrom o_tastedTo o_order o_spots o_gains o_value v_thrown v_textSize v_place v_jars v_readPlaces v_readJars v_acts v_tasted v_seed (63 : Int32) v_rowMany v_rowWay v_stuffWhich v_stuffNear v_keptMany v_keptFirst v_restMany v_restFirst f_kind f_page) H := hP
        have hD : va_D A (w_X8_seenBy cI cZ cG o o_text o_kind o_size o_readJar o_page o_trial o_book o_kept o_isKept o_tastedFrom o_tastedTo o_order o_spots o_gains o_value v_thrown v_textSize v_place v_jars v_readPlaces v_readJars v_acts v_tasted v_seed (63 : Int32) v_rowMany v_rowWay v_stuffWhich v_stuffNear v_keptMany v_keptFirst v_restMany v_restFirst f_kind f_page) := hD
        refine lv_iload_n hx hb dX8_seenBy_58 rfl (lv_at hl 1 rfl) ?_
        obtain ⟨r2, hc3, hf⟩ := g_b1 hf
        refine g_rS (As := [.int x2]) (rest := []) ⟨hx, hb, hml, hown, hts⟩ (c_X8_many l dC dI cI cZ cG    x2 hc3) (va_cwS 1 hts gX8_seenBy_X8_many rfl rfl rfl (by decide +kernel) ⟨Nat.le_of_ble_eq_true rfl, Nat.le_of_ble_eq_true rfl⟩) hK hN (hP.sub [] rfl) rfl hl.1 rfl (Nat.le_of_ble_eq_true rfl) dX8_seenBy_59 ⟨Nat.zero_le _, Nat.zero_le _⟩ ?_
        rw [hQ]
        cases hf
        exact W.iret hx hb hr (fun t ht hW => ⟨⟨_, (), rfl, rfl, by rw [ht]; exact hP, va_K.moved hW.alike hK, hD⟩, hS.F ht⟩) hS.2.2 dX8_seenBy_62
      · have hf := g_neg c1 hf
        refine lv_aload_n hx hb dX8_seenBy_17 rfl (lv_at hl 0 rfl) ?_
        refine lv_aload_n hx hb dX8_seenBy_18 rfl (lv_at hl 0 rfl) ?_
        refine va_get (D := (dC, dI)) (ci := 8) (v := .ref o_page) (C := RX8) (T := TX8) (N := 33) hx hb hts hiX8 hown hK hP 0 rfl rfl 10 (by decide) (hts (.fieldLink RX8 22 "GreenJarsModel" "page" "[I") (by decide +kernel)) (fun _ h9 => h9) rfl dX8_seenBy_19 ?_
        refine lv_iload_n hx hb dX8_seenBy_22 rfl (lv_at hl 2 rfl) ?_
        obtain ⟨r4, hc5, hf⟩ := g_b1 hf
        refine g_rV (As := [.ref o_page, .int x3]) (rest := []) ⟨hx, hb, hml, hown, hts⟩ (c_X8_sees l dC dI cI cZ cG o o_text o_kind o_size o_readJar o_page o_trial o_book o_kept o_isKept o_tastedFrom o_tastedTo o_order o_spots o_gains o_value o_page  v_thrown v_textSize v_place v_jars v_readPlaces v_readJars v_acts v_tasted v_seed y_some v_rowMany v_rowWay v_stuffWhich v_stuffNear v_keptMany v_keptFirst v_restMany v_restFirst f_kind f_page x3 hc5) (cwV 2 hts gX8_seenBy_X8_sees rfl rfl rfl (by decide +kernel) ⟨Nat.le_of_ble_eq_true rfl, Nat.le_of_ble_eq_true rfl⟩) hK hN (hP.sub [0, 1, 2] rfl) (va_recv hK hP (ci := 8) (q0 := 0) rfl rfl) rfl hl.1 rfl (Nat.le_of_ble_eq_true rfl) dX8_seenBy_23 ⟨Nat.zero_le _, Nat.zero_le _⟩ ?_
        refine lv_istore (lv' := [(4, .int r4), (0, .ref o), (2, .int x2), (3, .int x3)]) hx hb dX8_seenBy_26 hl (by decide) rfl (fun ls hl => ?_)
        refine lv_iload_n hx hb dX8_seenBy_28 rfl (lv_at hl 2 rfl) ?_
        refine lv_iload hx hb dX8_seenBy_29 (lv_at hl 0 rfl) ?_
        refine lv_bipush (v := (-9 : Int32)) hx hb dX8_seenBy_31 (by decide +kernel) ?_
        refine lv_icmp_ne (tgt := 40) hx hb dX8_seenBy_33 (by decide) (fun c6 => ?_) (fun c6 => ?_)
        · have hf := g_neg c6 hf
          refine lv_iconst (v := (1 : Int32)) hx hb dX8_seenBy_40 (by decide) ?_
          refine lv_iload hx hb dX8_seenBy_41 (lv_at hl 0 rfl) ?_
          refine lv_ishl hx hb dX8_seenBy_43 ?_
          exact J44 x3 x2 ((1 : Int32) <<< (r4 &&& 31)) y_some H locs ls hf (lv_sub hl [1, 3] rfl) hP hD hS
        · have hf := g_pos c6 hf
          refine lv_iconst (v := (0 : Int32)) hx hb dX8_seenBy_36 (by decide) ?_
          refine lv_goto (tgt := 44) hx hb dX8_seenBy_37 (by decide) ?_
          exact J44 x3 x2 (0 : Int32) y_some H locs ls hf (lv_sub hl [1, 3] rfl) hP hD hS
  unfold x8_seenBy at hf
  refine lv_aload_n hx hb dX8_seenBy_0 rfl (lv_at hl 0 rfl) ?_
  refine lv_iload_n hx hb dX8_seenBy_1 rfl (lv_at hl 1 rfl) ?_
  refine va_put (D := (dC, dI)) (ci := 8) (v := .int a1) (ty := .int) (C := RX8) (T := TX8) (N := 33) hx hb hts hiX8 tyX8 tyX8_ok nmX8 hown hK hP hD hS 0 rfl rfl 20 (by decide) (hts (.fieldLink RX8 109 "GreenJarsModel" "some" "I") (by decide +kernel)) (fun _ h9 => h9) rfl (by decide +kernel) rfl rfl (Nat.le_of_ble_eq_true rfl) dX8_seenBy_2 (fun H locs hP hD hS => ?_)
  have hP : va_P (dC, dI) vwCl (w_X8_seenBy cI cZ cG o o_text o_kind o_size o_readJar o_page o_trial o_book o_kept o_isKept o_tastedFrom o_tastedTo o_order o_spots o_gains o_value v_thrown v_textSize v_place v_jars v_readPlaces v_readJars v_acts v_tasted v_seed a1 v_rowMany v_rowWay v_stuffWhich v_stuffNear v_keptMany v_keptFirst v_restMany v_restFirst f_kind f_page) H := hP
  have hD : va_D A (w_X8_seenBy cI cZ cG o o_text o_kind o_size o_readJar o_page o_trial o_book o_kept o_isKept o_tastedFrom o_tastedTo o_order o_spots o_gains o_value v_thrown v_textSize v_place v_jars v_readPlaces v_readJars v_acts v_tasted v_seed a1 v_rowMany v_rowWay v_stuffWhich v_stuffNear v_keptMany v_keptFirst v_restMany v_restFirst f_kind f_page) := hD
  refine lv_iconst (v := (0 : Int32)) hx hb dX8_seenBy_5 (by decide) ?_
  refine lv_istore_n (lv' := [(2, .int (0 : Int32)), (0, .ref o), (1, .int a1)]) hx hb dX8_seenBy_6 rfl hl (by decide) rfl (fun ls hl => ?_)
  refine lv_iconst (v := (0 : Int32)) hx hb dX8_seenBy_7 (by decide) ?_
  refine lv_istore_n (lv' := [(3, .int (0 : Int32)), (2, .int (0 : Int32)), (0, .ref o), (1, .int a1)]) hx hb dX8_seenBy_8 rfl hl (by decide) rfl (fun ls hl => ?_)
  exact L9 N (0 : Int32) (0 : Int32) a1 H locs ls hf (lv_sub hl [2, 1, 0] rfl) hP hD hS
abbrev rm_X8_share : Room := { frames := 5, cells := 0, slots := 0, locals := 118 }
abbrev w_X8_share (cI cZ cG : ClassId) (o : Nat) (o_text : Nat) (o_kind : Nat) (o_size : Nat) (o_readJar : Nat) (o_page : Nat) (o_trial : Nat) (o_book : Nat) (o_kept : Nat) (o_isKept : Nat) (o_tastedFrom : Nat) (o_tastedTo : Nat) (o_order : Nat) (o_spots : Nat) (o_gains : Nat) (o_value : Nat) (v_thrown : Int32) (v_textSize : Int32) (v_place : Int32) (v_jars : Int32) (v_readPlaces : Int32) (v_readJars : Int32) (v_acts : Int32) (v_tasted : Int32) (v_seed : Int64) (v_some : Int32) (v_rowMany : Int32) (v_rowWay : Int32) (v_stuffWhich : Int32) (v_stuffNear : Int32) (v_keptMany : Int32) (v_keptFirst : Int32) (v_restMany : Int32) (v_restFirst : Int32) (f_kind : Nat → Int32) (f_page : Nat → Int32) (f_value : Nat → Int32) : va_W := [(o, .inr (8, [.int v_thrown, .ref o_text, .int v_textSize, .int v_place, .int v_jars, .ref o_kind, .ref o_size, .int v_readPlaces, .int v_readJars, .ref o_readJar, .ref o_page, .ref o_trial, .ref o_book, .int v_acts, .ref o_kept, .ref o_isKept, .int v_tasted, .ref o_tastedFrom, .ref o_tastedTo, .long v_seed, .int v_some, .ref o_order, .ref o_spots, .int v_rowMany, .int v_rowWay, .int v_stuffWhich, .int v_stuffNear, .int v_keptMany, .int v_keptFirst, .int v_restMany, .int v_restFirst, .ref o_gains, .ref o_value])), (o_kind, .inl (cI, 6, .inl f_kind)), (o_page, .inl (cI, 37, .inl f_page)), (o_value, .inl (cI, 64, .inl f_value))]
set_option maxHeartbeats 4000000 in
set_option maxRecDepth 100000 in
theorem c_X8_share (l : Launch) (dC : Nat → ClassId) (dI : Nat → Nat → Nat) (cI cZ cG : ClassId) {N : Nat} (o : Nat) (o_text : Nat) (o_kind : Nat) (o_size : Nat) (o_readJar : Nat) (o_page : Nat) (o_trial : Nat) (o_book : Nat) (o_kept : Nat) (o_isKept : Nat) (o_tastedFrom : Nat) (o_tastedTo : Nat) (o_order : Nat) (o_spots : Nat) (o_gains : Nat) (o_value : Nat) (sz : Nat) (v_thrown : Int32) (v_textSize : Int32) (v_place : Int32) (v_jars : Int32) (v_readPlaces : Int32) (v_readJars : Int32) (v_acts : Int32) (v_tasted : Int32) (v_seed : Int64) (v_some : Int32) (v_rowMany : Int32) (v_rowWay : Int32) (v_stuffWhich : Int32) (v_stuffNear : Int32) (v_keptMany : Int32) (v_keptFirst : Int32) (v_restMany : Int32) (v_restFirst : Int32) (f_kind : Nat → Int32) (f_page : Nat → Int32) (f_value : Nat → Int32) (a1 : Int32) (a2 : Int32) {r0 : Int32} {n_thrown : Int32} {n_some : Int32} {n_value : Nat → Int32} (hf : x8_share N v_thrown v_jars v_some f_kind f_page f_value a1 a2 = some (r0, n_thrown, n_some, n_value)) : Met l yX8_share wsX8_share rm_X8_share (va_Pc [.ref o, .int a1, .int a2] (gW (dC, dI) vwCl (gT cI cZ cG) (w_X8_share cI cZ cG o o_text o_kind o_size o_readJar o_page o_trial o_book o_kept o_isKept o_tastedFrom o_tastedTo o_order o_spots o_gains o_value v_thrown v_textSize v_place v_jars v_readPlaces v_readJars v_acts v_tasted v_seed v_some v_rowMany v_rowWay v_stuffWhich v_stuffNear v_keptMany v_keptFirst v_restMany v_restFirst f_kind f_page f_value) sz)) (va_Qi (fun r _ => r = r0) (gE (dC, dI) vwCl (gT cI cZ cG) (w_X8_share cI cZ cG o o_text o_kind o_size o_readJar o_page o_trial o_book o_kept o_isKept o_tastedFrom o_tastedTo o_order o_spots o_gains o_value n_thrown v_textSize v_place v_jars v_readPlaces v_readJars v_acts v_tasted v_seed n_some v_rowMany v_rowWay v_stuffWhich v_stuffNear v_keptMany v_keptFirst v_restMany v_restFirst f_kind f_page n_value) (va_A (w_X8_share cI cZ cG o o_text o_kind o_size o_readJar o_page o_trial o_book o_kept o_isKept o_tastedFrom o_tastedTo o_order o_spots o_gains o_value v_thrown v_textSize v_place v_jars v_readPlaces v_readJars v_acts v_tasted v_seed v_some v_rowMany v_rowWay v_stuffWhich v_stuffNear v_keptMany v_keptFirst v_restMany v_restFirst f_kind f_page f_value) sz)) (va_A (w_X8_share cI cZ cG o o_text o_kind o_size o_readJar o_page o_trial o_book o_kept o_isKept o_tastedFrom o_tastedTo o_order o_spots o_gains o_value v_thrown v_textSize v_place v_jars v_readPlaces v_readJars v_acts v_tasted v_seed v_some v_rowMany v_rowWay v_stuffWhich v_stuffNear v_keptMany v_keptFirst v_restMany v_restFirst f_kind f_page f_value) sz)) 0 0 (va_A (w_X8_share cI cZ cG o o_text o_kind o_size o_readJar o_page o_trial o_book o_kept o_isKept o_tastedFrom o_tastedTo o_order o_spots o_gains o_value v_thrown v_textSize v_place v_jars v_readPlaces v_readJars v_acts v_tasted v_seed v_some v_rowMany v_rowWay v_stuffWhich v_stuffNear v_keptMany v_keptFirst v_restMany v_restFirst f_kind f_page f_value) sz) := by
  refine Met.ofW (cc := cX8_share) (maxL := 6) (ret := (some .int)) (by decide) rfl ?_
  intro p e s m args below meth c s₁ B hml hv
  obtain ⟨rfl, hv⟩ := hv
  obtain ⟨hsz, hP, hK, hN, hD0⟩ := hv
  have hx := B.exec
  have hb := B.bytes
  have hr := B.returns
  have hts := atoms_spec (ws := wsX8_share) B.pre
  have hown : s.vm.findClass RX8 = some m.cls := findClass_of_methodNamed B.named
  have hlocks := B.notSynchronized
  have hiX8 : ∀ w ∈ u_ws RX8 TX8 33, w ∈ wsX8_share := fun w h => List.mem_cons_of_mem _ (List.mem_append_right _ h)
  subst hsz
  have hD := hD0.self (sz := s.heap.size)
  generalize hAe : va_A (w_X8_share cI cZ cG o o_text o_kind o_size o_readJar o_page o_trial o_book o_kept o_isKept o_tastedFrom o_tastedTo o_order o_spots o_gains o_value v_thrown v_textSize v_place v_jars v_readPlaces v_readJars v_acts v_tasted v_seed v_some v_rowMany v_rowWay v_stuffWhich v_stuffNear v_keptMany v_keptFirst v_restMany v_restFirst f_kind f_page f_value) s.heap.size = A at hD ⊢
  have hA : ∀ q : Nat, s.heap.size ≤ q → A q := fun q h => by rw [← hAe]; exact Or.inr h
  clear hD0
  have hS : va_S A s.heap s.heap [] := va_S.rf
  have hP : va_P (dC, dI) vwCl (w_X8_share cI cZ cG o o_text o_kind o_size o_readJar o_page o_trial o_book o_kept o_isKept o_tastedFrom o_tastedTo o_order o_spots o_gains o_value v_thrown v_textSize v_place v_jars v_readPlaces v_readJars v_acts v_tasted v_seed v_some v_rowMany v_rowWay v_stuffWhich v_stuffNear v_keptMany v_keptFirst v_restMany v_restFirst f_kind f_page f_value) s.heap := hP
  obtain ⟨Q, hQ⟩ : ∃ Q : State → Prop, Q = MQ below (va_Qi (fun r _ => r = r0) (gE (dC, dI) vwCl (gT cI cZ cG) (w_X8_share cI cZ cG o o_text o_kind o_size o_readJar o_page o_trial o_book o_kept o_isKept o_tastedFrom o_tastedTo o_order o_spots o_gains o_value n_thrown v_textSize v_place v_jars v_readPlaces v_readJars v_acts v_tasted v_seed n_some v_rowMany v_rowWay v_stuffWhich v_stuffNear v_keptMany v_keptFirst v_restMany v_restFirst f_kind f_page n_value) A) A) (([Value.ref o, Value.int a1, Value.int a2] : List Value).toArray) s 0 0 A := ⟨_, rfl⟩
  have hl := lv_entry ([.ref o, .int a1, .int a2]) (n := 6) (Nat.le_of_ble_eq_true rfl)
  rw [← hQ, lg_entry_eq]
  generalize (lg_sl ([.ref o, .int a1, .int a2]) ++ List.replicate (6 - (lg_sl ([.ref o, .int a1, .int a2])).length) Slot.unset).toArray = ls at hl ⊢
  have hl : lv_has ls 6 [(0, .ref o), (1, .int a1), (2, .int a2)] := hl
  generalize hH : s.heap = H at hP hS ⊢
  have hS : va_S A s.heap H [] := by rw [hH]; exact hS
  generalize hlc : ([] : List Loc) = locs at hS ⊢
  show W p l e rm_X8_share s m (([Value.ref o, Value.int a1, Value.int a2] : List Value).toArray) below meth c H locs 0 0 Q (F0 m 0 ls [])
  have L49 : ∀ (n49 : Nat), ∀ (x3 : Int32) (x4 : Int32) (y_thrown : Int32) (y_some : Int32) (y_value : Nat → Int32) (H : Heap) (locs : List Loc) (ls : Array Slot), x8_share_b49 N v_jars f_kind f_page a1 a2 n49 x3 x4 y_thrown y_some y_value = some (r0, n_thrown, n_some, n_value) → lv_has ls 6 [(0, .ref o), (1, .int a1), (2, .int a2), (3, .int x3), (4, .int x4)] → va_P (dC, dI) vwCl (w_X8_share cI cZ cG o o_text o_kind o_size o_readJar o_page o_trial o_book o_kept o_isKept o_tastedFrom o_tastedTo o_order o_spots o_gains o_value y_thrown v_textSize v_place v_jars v_readPlaces v_readJars v_acts v_tasted v_seed y_some v_rowMany v_rowWay v_stuffWhich v_stuffNear v_keptMany v_keptFirst v_restMany v_restFirst f_kind f_page y_value) H → va_D A (w_X8_share cI cZ cG o o_text o_kind o_size o_readJar o_page o_trial o_book o_kept o_isKept o_tastedFrom o_tastedTo o_order o_spots o_gains o_value y_thrown v_textSize v_place v_jars v_readPlaces v_readJars v_acts v_tasted v_seed y_some v_rowMany v_rowWay v_stuffWhich v_stuffNear v_keptMany v_keptFirst v_restMany v_restFirst f_kind f_page y_value) → va_S A s.heap H locs → W p l e rm_X8_share s m (([Value.ref o, Value.int a1, Value.int a2] : List Value).toArray) below meth c H locs 0 0 Q (F0 m 49 ls []) := by
    intro n49
    induction n49 with
    | zero =>
      intro x3 x4 y_thrown y_some y_value H locs ls hf hl hP hD hS
      exact g_no hf
    | succ n49 ih49 =>
      intro x3 x4 y_thrown y_some y_value H locs ls hf hl hP hD hS
      unfold x8_share_b49 at hf
      refine lv_iload hx hb dX8_share_49 (lv_at hl 4 rfl) ?_
      refine lv_iconst (v := (1 : Int32)) hx hb dX8_share_51 (by decide) ?_
      refine lv_aload_n hx hb dX8_share_52 rfl (lv_at hl 0 rfl) ?_
      refine va_get (D := (dC, dI)) (ci := 8) (v := .int v_jars) (C := RX8) (T := TX8) (N := 33) hx hb hts hiX8 hown hK hP 0 rfl rfl 4 (by decide) (hts (.fieldLink RX8 60 "GreenJarsModel" "jars" "I") (by decide +kernel)) (fun _ h9 => h9) rfl dX8_share_53 ?_
      refine lv_ishl hx hb dX8_share_56 ?_
      refine lv_icmp_ge (tgt := 123) hx hb dX8_share_57 (by decide) (fun c1 => ?_) (fun c1 => ?_)
      · have hf := g_pos c1 hf
        refine lv_iload_n hx hb dX8_share_123 rfl (lv_at hl 3 rfl) ?_
        refine lv_aload_n hx hb dX8_share_124 rfl (lv_at hl 0 rfl) ?_
        refine va_get (D := (dC, dI)) (ci := 8) (v := .int v_jars) (C := RX8) (T := TX8) (N := 33) hx hb hts hiX8 hown hK hP 0 rfl rfl 4 (by decide) (hts (.fieldLink RX8 60 "GreenJarsModel" "jars" "I") (by decide +kernel)) (fun _ h9 => h9) rfl dX8_share_125 ?_
        obtain ⟨r2, hc3, hf⟩ := g_b1 hf
        refine g_rS (As := [.int v_jars]) (rest := [.int x3]) ⟨hx, hb, hml, hown, hts⟩ (c_X8_ways l dC dI cI cZ cG    v_jars hc3) (va_cwS 1 hts gX8_share_X8_ways rfl rfl rfl (by decide +kernel) ⟨Nat.le_of_ble_eq_true rfl, Nat.le_of_ble_eq_true rfl⟩) hK hN (hP.sub [] rfl) rfl hl.1 rfl (Nat.le_of_ble_eq_true rfl) dX8_share_128 ⟨Nat.zero_le _, Nat.zero_le _⟩ ?_
        refine lv_iload_n hx hb dX8_share_131 rfl (lv_at hl 2 rfl) ?_
        obtain ⟨r4, hc5, hf⟩ := g_b1 hf
        refine g_rS (As := [.int x3, .int r2, .int a2]) (rest := []) ⟨hx, hb, hml, hown, hts⟩ (c_X8_fraction l dC dI cI cZ cG    x3 r2 a2 hc5) (va_cwS 3 hts gX8_share_X8_fraction rfl rfl rfl (by decide +kernel) ⟨Nat.le_of_ble_eq_true rfl, Nat.le_of_ble_eq_true rfl⟩) hK hN (hP.sub [] rfl) rfl hl.1 rfl (Nat.le_of_ble_eq_true rfl) dX8_share_132 ⟨Nat.zero_le _, Nat.zero_le _⟩ ?_
        rw [hQ]
        cases hf
        exact W.iret hx hb hr (fun t ht hW => ⟨⟨_, (), rfl, rfl, by rw [ht]; exact hP, va_K.moved hW.alike hK, hD⟩, hS.F ht⟩) hS.2.2 dX8_share_135
      · have hf := g_neg c1 hf
        refine lv_iload hx hb dX8_share_60 (lv_at hl 4 rfl) ?_
        refine lv_iload_n hx hb dX8_share_62 rfl (lv_at hl 1 rfl) ?_
        obtain ⟨r6, hc7, hf⟩ := g_b1 hf
        refine g_rS (As := [.int x4, .int a1]) (rest := []) ⟨hx, hb, hml, hown, hts⟩ (c_X8_has l dC dI cI cZ cG    x4 a1 hc7) (va_cwS 2 hts gX8_share_X8_has rfl rfl rfl (by decide +kernel) ⟨Nat.le_of_ble_eq_true rfl, Nat.le_of_ble_eq_true rfl⟩) hK hN (hP.sub [] rfl) rfl hl.1 rfl (Nat.le_of_ble_eq_true rfl) dX8_share_63 ⟨Nat.zero_le _, Nat.zero_le _⟩ ?_
        refine lv_if_ne (tgt := 117) hx hb dX8_share_66 (by decide) (fun c8 => ?_) (fun c8 => ?_)
        · have hf := g_neg c8 hf
          refine lv_iinc (v := (x4 + (1 : Int32))) (lv' := [(4, .int (x4 + (1 : Int32))), (0, .ref o), (1, .int a1), (2, .int a2), (3, .int x3)]) hx hb dX8_share_117 hl (k := 4) rfl rfl (by decide) rfl (fun ls hl => ?_)
          refine lv_goto (tgt := 49) hx hb dX8_share_120 (by decide) ?_
          exact ih49 x3 (x4 + (1 : Int32)) y_thrown y_some y_value H locs ls hf (lv_sub hl [1, 2, 3, 4, 0] rfl) hP hD hS
        · have hf := g_pos c8 hf
          refine lv_iload hx hb dX8_share_69 (lv_at hl 4 rfl) ?_
          obtain ⟨r9, hc10, hf⟩ := g_b1 hf
          refine g_rS (As := [.int x4]) (rest := []) ⟨hx, hb, hml, hown, hts⟩ (c_X8_many l dC dI cI cZ cG    x4 hc10) (va_cwS 1 hts gX8_share_X8_many rfl rfl rfl (by decide +kernel) ⟨Nat.le_of_ble_eq_true rfl, Nat.le_of_ble_eq_true rfl⟩) hK hN (hP.sub [] rfl) rfl hl.1 rfl (Nat.le_of_ble_eq_true rfl) dX8_share_71 ⟨Nat.zero_le _, Nat.zero_le _⟩ ?_
          refine lv_istore (lv' := [(5, .int r9), (0, .ref o), (1, .int a1), (2, .int a2), (3, .int x3), (4, .int x4)]) hx hb dX8_share_74 hl (by decide) rfl (fun ls hl => ?_)
          refine lv_iload_n hx hb dX8_share_76 rfl (lv_at hl 4 rfl) ?_
          refine lv_iload hx hb dX8_share_77 (lv_at hl 0 rfl) ?_
          obtain ⟨r11, hc12, hf⟩ := g_b1 hf
          refine g_rS (As := [.int r9]) (rest := [.int x3]) ⟨hx, hb, hml, hown, hts⟩ (c_X8_ways l dC dI cI cZ cG    r9 hc12) (va_cwS 1 hts gX8_share_X8_ways rfl rfl rfl (by decide +kernel) ⟨Nat.le_of_ble_eq_true rfl, Nat.le_of_ble_eq_true rfl⟩) hK hN (hP.sub [] rfl) rfl hl.1 rfl (Nat.le_of_ble_eq_true rfl) dX8_share_79 ⟨Nat.zero_le _, Nat.zero_le _⟩ ?_
          refine lv_aload_n hx hb dX8_share_82 rfl (lv_at hl 1 rfl) ?_
          refine va_get (D := (dC, dI)) (ci := 8) (v := .int v_jars) (C := RX8) (T := TX8) (N := 33) hx hb hts hiX8 hown hK hP 0 rfl rfl 4 (by decide) (hts (.fieldLink RX8 60 "GreenJarsModel" "jars" "I") (by decide +kernel)) (fun _ h9 => h9) rfl dX8_share_83 ?_
          refine lv_iconst (v := (1 : Int32)) hx hb dX8_share_86 (by decide) ?_
          refine lv_isub hx hb dX8_share_87 ?_
          refine lv_iload hx hb dX8_share_88 (lv_at hl 0 rfl) ?_
          refine lv_isub hx hb dX8_share_90 ?_
          obtain ⟨r13, hc14, hf⟩ := g_b1 hf
          refine g_rS (As := [.int ((v_jars - (1 : Int32)) - r9)]) (rest := [.int r11, .int x3]) ⟨hx, hb, hml, hown, hts⟩ (c_X8_ways l dC dI cI cZ cG    ((v_jars - (1 : Int32)) - r9) hc14) (va_cwS 1 hts gX8_share_X8_ways rfl rfl rfl (by decide +kernel) ⟨Nat.le_of_ble_eq_true rfl, Nat.le_of_ble_eq_true rfl⟩) hK hN (hP.sub [] rfl) rfl hl.1 rfl (Nat.le_of_ble_eq_true rfl) dX8_share_91 ⟨Nat.zero_le _, Nat.zero_le _⟩ ?_
          refine lv_imul hx hb dX8_share_94 ?_
          refine lv_aload_n hx hb dX8_share_95 rfl (lv_at hl 1 rfl) ?_
          refine va_get (D := (dC, dI)) (ci := 8) (v := .ref o_value) (C := RX8) (T := TX8) (N := 33) hx hb hts hiX8 hown hK hP 0 rfl rfl 32 (by decide) (hts (.fieldLink RX8 53 "GreenJarsModel" "value" "[I") (by decide +kernel)) (fun _ h9 => h9) rfl dX8_share_96 ?_
          refine lv_iload hx hb dX8_share_99 (lv_at hl 5 rfl) ?_
          refine lv_iconst (v := (1 : Int32)) hx hb dX8_share_101 (by decide) ?_
          refine lv_iload_n hx hb dX8_share_102 rfl (lv_at hl 2 rfl) ?_
          refine lv_ishl hx hb dX8_share_103 ?_
          refine lv_ior hx hb dX8_share_104 ?_
          obtain ⟨h15, hf⟩ := g_chk hf
          refine va_iald hx hb hK hP 3 0 rfl rfl (gIn_vp h15) dX8_share_105 ?_
          refine lv_aload_n hx hb dX8_share_106 rfl (lv_at hl 1 rfl) ?_
          refine va_get (D := (dC, dI)) (ci := 8) (v := .ref o_value) (C := RX8) (T := TX8) (N := 33) hx hb hts hiX8 hown hK hP 0 rfl rfl 32 (by decide) (hts (.fieldLink RX8 53 "GreenJarsModel" "value" "[I") (by decide +kernel)) (fun _ h9 => h9) rfl dX8_share_107 ?_
          refine lv_iload hx hb dX8_share_110 (lv_at hl 5 rfl) ?_
          obtain ⟨h16, hf⟩ := g_chk hf
          refine va_iald hx hb hK hP 3 0 rfl rfl (gIn_vp h16) dX8_share_112 ?_
          refine lv_isub hx hb dX8_share_113 ?_
          refine lv_imul hx hb dX8_share_114 ?_
          refine lv_iadd hx hb dX8_share_115 ?_
          refine lv_istore_n (lv' := [(3, .int (x3 + ((r11 * r13) * ((y_value (x4 ||| ((1 : Int32) <<< (a1 &&& 31))).toNatClampNeg) - (y_value x4.toNatClampNeg))))), (5, .int r9), (0, .ref o), (1, .int a1), (2, .int a2), (4, .int x4)]) hx hb dX8_share_116 rfl hl (by decide) rfl (fun ls hl => ?_)
          refine lv_iinc (v := (x4 + (1 : Int32))) (lv' := [(4, .int (x4 + (1 : Int32))), (3, .int (x3 + ((r11 * r13) * ((y_value (x4 ||| ((1 : Int32) <<< (a1 &&& 31))).toNatClampNeg) - (y_value x4.toNatClampNeg))))), (5, .int r9), (0, .ref o), (1, .int a1), (2, .int a2)]) hx hb dX8_share_117 hl (k := 5) rfl rfl (by decide) rfl (fun ls hl => ?_)
          refine lv_goto (tgt := 49) hx hb dX8_share_120 (by decide) ?_
          exact ih49 (x3 + ((r11 * r13) * ((y_value (x4 ||| ((1 : Int32) <<< (a1 &&& 31))).toNatClampNeg) - (y_value x4.toNatClampNeg)))) (x4 + (1 : Int32)) y_thrown y_some y_value H locs ls hf (lv_sub hl [3, 4, 5, 1, 0] rfl) hP hD hS
  have L17 : ∀ (n17 : Nat), ∀ (x3 : Int32) (y_thrown : Int32) (y_some : Int32) (y_value : Nat → Int32) (H : Heap) (locs : List Loc) (ls : Array Slot), x8_share_b17 N v_jars f_kind f_page a1 a2 n17 x3 y_thrown y_some y_value = some (r0, n_thrown, n_some, n_value) → lv_has ls 6 [(0, .ref o), (1, .int a1), (2, .int a2), (3, .int x3)] → va_P (dC, dI) vwCl (w_X8_share cI cZ cG o o_text o_kind o_size o_readJar o_page o_trial o_book o_kept o_isKept o_tastedFrom o_tastedTo o_order o_spots o_gains o_value y_thrown v_textSize v_place v_jars v_readPlaces v_readJars v_acts v_tasted v_seed y_some v_rowMany v_rowWay v_stuffWhich v_stuffNear v_keptMany v_keptFirst v_restMany v_restFirst f_kind f_page y_value) H → va_D A (w_X8_share cI cZ cG o o_text o_kind o_size o_readJar o_page o_trial o_book o_kept o_isKept o_tastedFrom o_tastedTo o_order o_spots o_gains o_value y_thrown v_textSize v_place v_jars v_readPlaces v_readJars v_acts v_tasted v_seed y_some v_rowMany v_rowWay v_stuffWhich v_stuffNear v_keptMany v_keptFirst v_restMany v_restFirst f_kind f_page y_value) → va_S A s.heap H locs → W p l e rm_X8_share s m (([Value.ref o, Value.int a1, Value.int a2] : List Value).toArray) below meth c H locs 0 0 Q (F0 m 17 ls []) := by
    intro n17
    induction n17 with
    | zero =>
      intro x3 y_thrown y_some y_value H locs ls hf hl hP hD hS
      exact g_no hf
    | succ n17 ih17 =>
      intro x3 y_thrown y_some y_value H locs ls hf hl hP hD hS
      unfold x8_share_b17 at hf
      refine lv_iload_n hx hb dX8_share_17 rfl (lv_at hl 3 rfl) ?_
      refine lv_iconst (v := (1 : Int32)) hx hb dX8_share_18 (by decide) ?_
      refine lv_aload_n hx hb dX8_share_19 rfl (lv_at hl 0 rfl) ?_
      refine va_get (D := (dC, dI)) (ci := 8) (v := .int v_jars) (C := RX8) (T := TX8) (N := 33) hx hb hts hiX8 hown hK hP 0 rfl rfl 4 (by decide) (hts (.fieldLink RX8 60 "GreenJarsModel" "jars" "I") (by decide +kernel)) (fun _ h9 => h9) rfl dX8_share_20 ?_
      refine lv_ishl hx hb dX8_share_23 ?_
      refine lv_icmp_ge (tgt := 44) hx hb dX8_share_24 (by decide) (fun c17 => ?_) (fun c17 => ?_)
      · have hf := g_pos c17 hf
        refine lv_iconst (v := (0 : Int32)) hx hb dX8_share_44 (by decide) ?_
        refine lv_istore_n (lv' := [(3, .int (0 : Int32)), (0, .ref o), (1, .int a1), (2, .int a2)]) hx hb dX8_share_45 rfl hl (by decide) rfl (fun ls hl => ?_)
        refine lv_iconst (v := (0 : Int32)) hx hb dX8_share_46 (by decide) ?_
        refine lv_istore (lv' := [(4, .int (0 : Int32)), (3, .int (0 : Int32)), (0, .ref o), (1, .int a1), (2, .int a2)]) hx hb dX8_share_47 hl (by decide) rfl (fun ls hl => ?_)
        exact L49 N (0 : Int32) (0 : Int32) y_thrown y_some y_value H locs ls hf (lv_sub hl [2, 3, 4, 1, 0] rfl) hP hD hS
      · have hf := g_neg c17 hf
        refine lv_aload_n hx hb dX8_share_27 rfl (lv_at hl 0 rfl) ?_
        refine va_get (D := (dC, dI)) (ci := 8) (v := .ref o_value) (C := RX8) (T := TX8) (N := 33) hx hb hts hiX8 hown hK hP 0 rfl rfl 32 (by decide) (hts (.fieldLink RX8 53 "GreenJarsModel" "value" "[I") (by decide +kernel)) (fun _ h9 => h9) rfl dX8_share_28 ?_
        refine lv_iload_n hx hb dX8_share_31 rfl (lv_at hl 3 rfl) ?_
        refine lv_aload_n hx hb dX8_share_32 rfl (lv_at hl 0 rfl) ?_
        refine lv_iload_n hx hb dX8_share_33 rfl (lv_at hl 3 rfl) ?_
        obtain ⟨r18, y19, hc20, hf⟩ := g_b2 hf
        refine g_wV (As := [.int x3]) (rest := [.int x3, .ref o_value]) (wr := [(o_value, .inl (cI, 64, .inl y_value))]) (wn := (w_X8_share cI cZ cG o o_text o_kind o_size o_readJar o_page o_trial o_book o_kept o_isKept o_tastedFrom o_tastedTo o_order o_spots o_gains o_value y_thrown v_textSize v_place v_jars v_readPlaces v_readJars v_acts v_tasted v_seed y19 v_rowMany v_rowWay v_stuffWhich v_stuffNear v_keptMany v_keptFirst v_restMany v_restFirst f_kind f_page y_value)) ⟨hx, hb, hml, hown, hts⟩ (c_X8_seenBy l dC dI cI cZ cG o o_text o_kind o_size o_readJar o_page o_trial o_book o_kept o_isKept o_tastedFrom o_tastedTo o_order o_spots o_gains o_value H.size  y_thrown v_textSize v_place v_jars v_readPlaces v_readJars v_acts v_tasted v_seed y_some v_rowMany v_rowWay v_stuffWhich v_stuffNear v_keptMany v_keptFirst v_restMany v_restFirst f_kind f_page x3 hc20) (cwV 1 hts gX8_share_X8_seenBy rfl rfl rfl (by decide +kernel) ⟨Nat.le_of_ble_eq_true rfl, Nat.le_of_ble_eq_true rfl⟩) hK hN hP hD hS hA [0, 1, 2] [3] [1, 2, 3, 0] rfl rfl (by decide) rfl (by decide) (by decide) rfl (by decide) (va_recv hK hP (ci := 8) (q0 := 0) rfl rfl) rfl hl.1 rfl (Nat.le_of_ble_eq_true rfl) dX8_share_34 ⟨Nat.zero_le _, Nat.zero_le _⟩ (fun H locs hP hD hS => ?_)
        obtain ⟨h21, hf⟩ := g_chk hf
        refine va_iast hx hb hK hP hD hS 3 0 rfl rfl (gIn_vp h21) dX8_share_37 (fun H locs hP hD hS => ?_)
        have hP : va_P (dC, dI) vwCl (w_X8_share cI cZ cG o o_text o_kind o_size o_readJar o_page o_trial o_book o_kept o_isKept o_tastedFrom o_tastedTo o_order o_spots o_gains o_value y_thrown v_textSize v_place v_jars v_readPlaces v_readJars v_acts v_tasted v_seed y19 v_rowMany v_rowWay v_stuffWhich v_stuffNear v_keptMany v_keptFirst v_restMany v_restFirst f_kind f_page (upd y_value x3.toNatClampNeg r18)) H := hP
        have hD : va_D A (w_X8_share cI cZ cG o o_text o_kind o_size o_readJar o_page o_trial o_book o_kept o_isKept o_tastedFrom o_tastedTo o_order o_spots o_gains o_value y_thrown v_textSize v_place v_jars v_readPlaces v_readJars v_acts v_tasted v_seed y19 v_rowMany v_rowWay v_stuffWhich v_stuffNear v_keptMany v_keptFirst v_restMany v_restFirst f_kind f_page (upd y_value x3.toNatClampNeg r18)) := hD
        refine lv_iinc (v := (x3 + (1 : Int32))) (lv' := [(3, .int (x3 + (1 : Int32))), (0, .ref o), (1, .int a1), (2, .int a2)]) hx hb dX8_share_38 hl (k := 3) rfl rfl (by decide) rfl (fun ls hl => ?_)
        refine lv_goto (tgt := 17) hx hb dX8_share_41 (by decide) ?_
        exact ih17 (x3 + (1 : Int32)) y_thrown y19 (upd y_value x3.toNatClampNeg r18) H locs ls hf (lv_sub hl [1, 2, 3, 0] rfl) hP hD hS
  unfold x8_share at hf
  refine lv_aload_n hx hb dX8_share_0 rfl (lv_at hl 0 rfl) ?_
  refine lv_iconst (v := (0 : Int32)) hx hb dX8_share_1 (by decide) ?_
  refine va_put (D := (dC, dI)) (ci := 8) (v := .int (0 : Int32)) (ty := .int) (C := RX8) (T := TX8) (N := 33) hx hb hts hiX8 tyX8 tyX8_ok nmX8 hown hK hP hD hS 0 rfl rfl 0 (by decide) (hts (.fieldLink RX8 56 "GreenJarsModel" "thrown" "I") (by decide +kernel)) (fun _ h9 => h9) rfl (by decide +kernel) rfl rfl (Nat.le_of_ble_eq_true rfl) dX8_share_2 (fun H locs hP hD hS => ?_)
  have hP : va_P (dC, dI) vwCl (w_X8_share cI cZ cG o o_text o_kind o_size o_readJar o_page o_trial o_book o_kept o_isKept o_tastedFrom o_tastedTo o_order o_spots o_gains o_value (0 : Int32) v_textSize v_place v_jars v_readPlaces v_readJars v_acts v_tasted v_seed v_some v_rowMany v_rowWay v_stuffWhich v_stuffNear v_keptMany v_keptFirst v_restMany v_restFirst f_kind f_page f_value) H := hP
  have hD : va_D A (w_X8_share cI cZ cG o o_text o_kind o_size o_readJar o_page o_trial o_book o_kept o_isKept o_tastedFrom o_tastedTo o_order o_spots o_gains o_value (0 : Int32) v_textSize v_place v_jars v_readPlaces v_readJars v_acts v_tasted v_seed v_some v_rowMany v_rowWay v_stuffWhich v_stuffNear v_keptMany v_keptFirst v_restMany v_restFirst f_kind f_page f_value) := hD
  refine lv_aload_n hx hb dX8_share_5 rfl (lv_at hl 0 rfl) ?_
  refine lv_iload_n hx hb dX8_share_6 rfl (lv_at hl 1 rfl) ?_
  obtain ⟨r22, hc23, hf⟩ := g_b1 hf
  refine g_rV (As := [.int a1]) (rest := []) ⟨hx, hb, hml, hown, hts⟩ (c_X8_noJar l dC dI cI cZ cG o o_text o_kind o_size o_readJar o_page o_trial o_book o_kept o_isKept o_tastedFrom o_tastedTo o_order o_spots o_gains o_value  (0 : Int32) v_textSize v_place v_jars v_readPlaces v_readJars v_acts v_tasted v_seed v_some v_rowMany v_rowWay v_stuffWhich v_stuffNear v_keptMany v_keptFirst v_restMany v_restFirst a1 hc23) (cwV 1 hts gX8_share_X8_noJar rfl rfl rfl (by decide +kernel) ⟨Nat.le_of_ble_eq_true rfl, Nat.le_of_ble_eq_true rfl⟩) hK hN (hP.sub [0] rfl) (va_recv hK hP (ci := 8) (q0 := 0) rfl rfl) rfl hl.1 rfl (Nat.le_of_ble_eq_true rfl) dX8_share_7 ⟨Nat.zero_le _, Nat.zero_le _⟩ ?_
  refine lv_if_eq (tgt := 15) hx hb dX8_share_10 (by decide) (fun c24 => ?_) (fun c24 => ?_)
  · have hf := g_pos c24 hf
    refine lv_iconst (v := (0 : Int32)) hx hb dX8_share_15 (by decide) ?_
    refine lv_istore_n (lv' := [(3, .int (0 : Int32)), (0, .ref o), (1, .int a1), (2, .int a2)]) hx hb dX8_share_16 rfl hl (by decide) rfl (fun ls hl => ?_)
    exact L17 N (0 : Int32) (0 : Int32) v_some f_value H locs ls hf (lv_sub hl [1, 2, 3, 0] rfl) hP hD hS
  · have hf := g_neg c24 hf
    refine lv_iconst (v := (-1 : Int32)) hx hb dX8_share_13 (by decide) ?_
    rw [hQ]
    cases hf
    exact W.iret hx hb hr (fun t ht hW => ⟨⟨_, (), rfl, rfl, by rw [ht]; exact hP, va_K.moved hW.alike hK, hD⟩, hS.F ht⟩) hS.2.2 dX8_share_14
abbrev rm_X8_taste : Room := { frames := 1, cells := 0, slots := 0, locals := 25 }
abbrev w_X8_taste (cI cZ cG : ClassId) (o : Nat) (o_text : Nat) (o_kind : Nat) (o_size : Nat) (o_readJar : Nat) (o_page : Nat) (o_trial : Nat) (o_book : Nat) (o_kept : Nat) (o_isKept : Nat) (o_tastedFrom : Nat) (o_tastedTo : Nat) (o_order : Nat) (o_spots : Nat) (o_gains : Nat) (o_value : Nat) (v_thrown : Int32) (v_textSize : Int32) (v_place : Int32) (v_jars : Int32) (v_readPlaces : Int32) (v_readJars : Int32) (v_acts : Int32) (v_tasted : Int32) (v_seed : Int64) (v_some : Int32) (v_rowMany : Int32) (v_rowWay : Int32) (v_stuffWhich : Int32) (v_stuffNear : Int32) (v_keptMany : Int32) (v_keptFirst : Int32) (v_restMany : Int32) (v_restFirst : Int32) (f_tastedFrom : Nat → Int32) (f_tastedTo : Nat → Int32) : va_W := [(o, .inr (8, [.int v_thrown, .ref o_text, .int v_textSize, .int v_place, .int v_jars, .ref o_kind, .ref o_size, .int v_readPlaces, .int v_readJars, .ref o_readJar, .ref o_page, .ref o_trial, .ref o_book, .int v_acts, .ref o_kept, .ref o_isKept, .int v_tasted, .ref o_tastedFrom, .ref o_tastedTo, .long v_seed, .int v_some, .ref o_order, .ref o_spots, .int v_rowMany, .int v_rowWay, .int v_stuffWhich, .int v_stuffNear, .int v_keptMany, .int v_keptFirst, .int v_restMany, .int v_restFirst, .ref o_gains, .ref o_value])), (o_tastedFrom, .inl (cI, 6, .inl f_tastedFrom)), (o_tastedTo, .inl (cI, 6, .inl f_tastedTo))]
set_option maxHeartbeats 4000000 in
set_option maxRecDepth 100000 in
theorem c_X8_taste (l : Launch) (dC : Nat → ClassId) (dI : Nat → Nat → Nat) (cI cZ cG : ClassId) (o : Nat) (o_text : Nat) (o_kind : Nat) (o_size : Nat) (o_readJar : Nat) (o_page : Nat) (o_trial : Nat) (o_book : Nat) (o_kept : Nat) (o_isKept : Nat) (o_tastedFrom : Nat) (o_tastedTo : Nat) (o_order : Nat) (o_spots : Nat) (o_gains : Nat) (o_value : Nat) (sz : Nat) (v_thrown : Int32) (v_textSize : Int32) (v_place : Int32) (v_jars : Int32) (v_readPlaces : Int32) (v_readJars : Int32) (v_acts : Int32) (v_tasted : Int32) (v_seed : Int64) (v_some : Int32) (v_rowMany : Int32) (v_rowWay : Int32) (v_stuffWhich : Int32) (v_stuffNear : Int32) (v_keptMany : Int32) (v_keptFirst : Int32) (v_restMany : Int32) (v_restFirst : Int32) (f_tastedFrom : Nat → Int32) (f_tastedTo : Nat → Int32) (a1 : Int32) (a2 : Int32) {r0 : Int32} {n_thrown : Int32} {n_tasted : Int32} {n_tastedFrom : Nat → Int32} {n_tastedTo : Nat → Int32} (hf : x8_taste v_thrown v_tasted f_tastedFrom f_tastedTo a1 a2 = some (r0, n_thrown, n_tasted, n_tastedFrom, n_tastedTo)) : Met l yX8_taste wsX8_taste rm_X8_taste (va_Pc [.ref o, .int a1, .int a2] (gW (dC, dI) vwCl (gT cI cZ cG) (w_X8_taste cI cZ cG o o_text o_kind o_size o_readJar o_page o_trial o_book o_kept o_isKept o_tastedFrom o_tastedTo o_order o_spots o_gains o_value v_thrown v_textSize v_place v_jars v_readPlaces v_readJars v_acts v_tasted v_seed v_some v_rowMany v_rowWay v_stuffWhich v_stuffNear v_keptMany v_keptFirst v_restMany v_restFirst f_tastedFrom f_tastedTo) sz)) (va_Qi (fun r _ => r = r0) (gE (dC, dI) vwCl (gT cI cZ cG) (w_X8_taste cI cZ cG o o_text o_kind o_size o_readJar o_page o_trial o_book o_kept o_isKept o_tastedFrom o_tastedTo o_order o_spots o_gains o_value n_thrown v_textSize v_place v_jars v_readPlaces v_readJars v_acts n_tasted v_seed v_some v_rowMany v_rowWay v_stuffWhich v_stuffNear v_keptMany v_keptFirst v_restMany v_restFirst n_tastedFrom n_tastedTo) (va_A (w_X8_taste cI cZ cG o o_text o_kind o_size o_readJar o_page o_trial o_book o_kept o_isKept o_tastedFrom o_tastedTo o_order o_spots o_gains o_value v_thrown v_textSize v_place v_jars v_readPlaces v_readJars v_acts v_tasted v_seed v_some v_rowMany v_rowWay v_stuffWhich v_stuffNear v_keptMany v_keptFirst v_restMany v_restFirst f_tastedFrom f_tastedTo) sz)) (va_A (w_X8_taste cI cZ cG o o_text o_kind o_size o_readJar o_page o_trial o_book o_kept o_isKept o_tastedFrom o_tastedTo o_order o_spots o_gains o_value v_thrown v_textSize v_place v_jars v_readPlaces v_readJars v_acts v_tasted v_seed v_some v_rowMany v_rowWay v_stuffWhich v_stuffNear v_keptMany v_keptFirst v_restMany v_restFirst f_tastedFrom f_tastedTo) sz)) 0 0 (va_A (w_X8_taste cI cZ cG o o_text o_kind o_size o_readJar o_page o_trial o_book o_kept o_isKept o_tastedFrom o_tastedTo o_order o_spots o_gains o_value v_thrown v_textSize v_place v_jars v_readPlaces v_readJars v_acts v_tasted v_seed v_some v_rowMany v_rowWay v_stuffWhich v_stuffNear v_keptMany v_keptFirst v_restMany v_restFirst f_tastedFrom f_tastedTo) sz) := by
  refine Met.ofW (cc := cX8_taste) (maxL := 3) (ret := (some .int)) (by decide) rfl ?_
  intro p e s m args below meth c s₁ B hml hv
  obtain ⟨rfl, hv⟩ := hv
  obtain ⟨hsz, hP, hK, hN, hD0⟩ := hv
  have hx := B.exec
  have hb := B.bytes
  have hr := B.returns
  have hts := atoms_spec (ws := wsX8_taste) B.pre
  have hown : s.vm.findClass RX8 = some m.cls := findClass_of_methodNamed B.named
  have hlocks := B.notSynchronized
  have hiX8 : ∀ w ∈ u_ws RX8 TX8 33, w ∈ wsX8_taste := fun w h => List.mem_cons_of_mem _ (List.mem_append_right _ h)
  subst hsz
  have hD := hD0.self (sz := s.heap.size)
  generalize hAe : va_A (w_X8_taste cI cZ cG o o_text o_kind o_size o_readJar o_page o_trial o_book o_kept o_isKept o_tastedFrom o_tastedTo o_order o_spots o_gains o_value v_thrown v_textSize v_place v_jars v_readPlaces v_readJars v_acts v_tasted v_seed v_some v_rowMany v_rowWay v_stuffWhich v_stuffNear v_keptMany v_keptFirst v_restMany v_restFirst f_tastedFrom f_tastedTo) s.heap.size = A at hD ⊢
  have hA : ∀ q : Nat, s.heap.size ≤ q → A q := fun q h => by rw [← hAe]; exact Or.inr h
  clear hD0
  have hS : va_S A s.heap s.heap [] := va_S.rf
  have hP : va_P (dC, dI) vwCl (w_X8_taste cI cZ cG o o_text o_kind o_size o_readJar o_page o_trial o_book o_kept o_isKept o_tastedFrom o_tastedTo o_order o_spots o_gains o_value v_thrown v_textSize v_place v_jars v_readPlaces v_readJars v_acts v_tasted v_seed v_some v_rowMany v_rowWay v_stuffWhich v_stuffNear v_keptMany v_keptFirst v_restMany v_restFirst f_tastedFrom f_tastedTo) s.heap := hP
  obtain ⟨Q, hQ⟩ : ∃ Q : State → Prop, Q = MQ below (va_Qi (fun r _ => r = r0) (gE (dC, dI) vwCl (gT cI cZ cG) (w_X8_taste cI cZ cG o o_text o_kind o_size o_readJar o_page o_trial o_book o_kept o_isKept o_tastedFrom o_tastedTo o_order o_spots o_gains o_value n_thrown v_textSize v_place v_jars v_readPlaces v_readJars v_acts n_tasted v_seed v_some v_rowMany v_rowWay v_stuffWhich v_stuffNear v_keptMany v_keptFirst v_restMany v_restFirst n_tastedFrom n_tastedTo) A) A) (([Value.ref o, Value.int a1, Value.int a2] : List Value).toArray) s 0 0 A := ⟨_, rfl⟩
  have hl := lv_entry ([.ref o, .int a1, .int a2]) (n := 3) (Nat.le_of_ble_eq_true rfl)
  rw [← hQ, lg_entry_eq]
  generalize (lg_sl ([.ref o, .int a1, .int a2]) ++ List.replicate (3 - (lg_sl ([.ref o, .int a1, .int a2])).length) Slot.unset).toArray = ls at hl ⊢
  have hl : lv_has ls 3 [(0, .ref o), (1, .int a1), (2, .int a2)] := hl
  generalize hH : s.heap = H at hP hS ⊢
  have hS : va_S A s.heap H [] := by rw [hH]; exact hS
  generalize hlc : ([] : List Loc) = locs at hS ⊢
  show W p l e rm_X8_taste s m (([Value.ref o, Value.int a1, Value.int a2] : List Value).toArray) below meth c H locs 0 0 Q (F0 m 0 ls [])
  unfold x8_taste at hf
  refine lv_aload_n hx hb dX8_taste_0 rfl (lv_at hl 0 rfl) ?_
  refine lv_iconst (v := (0 : Int32)) hx hb dX8_taste_1 (by decide) ?_
  refine va_put (D := (dC, dI)) (ci := 8) (v := .int (0 : Int32)) (ty := .int) (C := RX8) (T := TX8) (N := 33) hx hb hts hiX8 tyX8 tyX8_ok nmX8 hown hK hP hD hS 0 rfl rfl 0 (by decide) (hts (.fieldLink RX8 56 "GreenJarsModel" "thrown" "I") (by decide +kernel)) (fun _ h9 => h9) rfl (by decide +kernel) rfl rfl (Nat.le_of_ble_eq_true rfl) dX8_taste_2 (fun H locs hP hD hS => ?_)
  have hP : va_P (dC, dI) vwCl (w_X8_taste cI cZ cG o o_text o_kind o_size o_readJar o_page o_trial o_book o_kept o_isKept o_tastedFrom o_tastedTo o_order o_spots o_gains o_value (0 : Int32) v_textSize v_place v_jars v_readPlaces v_readJars v_acts v_tasted v_seed v_some v_rowMany v_rowWay v_stuffWhich v_stuffNear v_keptMany v_keptFirst v_restMany v_restFirst f_tastedFrom f_tastedTo) H := hP
  have hD : va_D A (w_X8_taste cI cZ cG o o_text o_kind o_size o_readJar o_page o_trial o_book o_kept o_isKept o_tastedFrom o_tastedTo o_order o_spots o_gains o_value (0 : Int32) v_textSize v_place v_jars v_readPlaces v_readJars v_acts v_tasted v_seed v_some v_rowMany v_rowWay v_stuffWhich v_stuffNear v_keptMany v_keptFirst v_restMany v_restFirst f_tastedFrom f_tastedTo) := hD
  refine lv_iload_n hx hb dX8_taste_5 rfl (lv_at hl 1 rfl) ?_
  refine lv_i2l hx hb dX8_taste_6 rfl ?_
  refine lv_lconst (v := (0 : Int64)) hx hb dX8_taste_7 (by decide) ?_
  refine lv_ldc2 (v := (9 : Int64)) hx hb hown (hts (.constantLong RX8 177 (9 : Int64)) (by decide +kernel)) dX8_taste_8 ?_
  obtain ⟨r1, hc2, hf⟩ := g_b1 hf
  refine g_rS (As := [.long a1.toInt64, .long (0 : Int64), .long (9 : Int64)]) (rest := []) ⟨hx, hb, hml, hown, hts⟩ (c_X8_in l dC dI cI cZ cG    a1.toInt64 (0 : Int64) (9 : Int64) hc2) (va_cwS 3 hts gX8_taste_X8_in rfl rfl rfl (by decide +kernel) ⟨Nat.le_of_ble_eq_true rfl, Nat.le_of_ble_eq_true rfl⟩) hK hN (hP.sub [] rfl) rfl hl.1 rfl (Nat.le_of_ble_eq_true rfl) dX8_taste_11 ⟨Nat.zero_le _, Nat.zero_le _⟩ ?_
  refine lv_if_eq (tgt := 29) hx hb dX8_taste_14 (by decide) (fun c3 => ?_) (fun c3 => ?_)
  · have hf := g_pos c3 hf
    refine lv_bipush (v := (-2 : Int32)) hx hb dX8_taste_29 (by decide +kernel) ?_
    rw [hQ]
    cases hf
    exact W.iret hx hb hr (fun t ht hW => ⟨⟨_, (), rfl, rfl, by rw [ht]; exact hP, va_K.moved hW.alike hK, hD⟩, hS.F ht⟩) hS.2.2 dX8_taste_31
  · have hf := g_neg c3 hf
    refine lv_iload_n hx hb dX8_taste_17 rfl (lv_at hl 2 rfl) ?_
    refine lv_i2l hx hb dX8_taste_18 rfl ?_
    refine lv_lconst (v := (0 : Int64)) hx hb dX8_taste_19 (by decide) ?_
    refine lv_ldc2 (v := (9 : Int64)) hx hb hown (hts (.constantLong RX8 177 (9 : Int64)) (by decide +kernel)) dX8_taste_20 ?_
    obtain ⟨r4, hc5, hf⟩ := g_b1 hf
    refine g_rS (As := [.long a2.toInt64, .long (0 : Int64), .long (9 : Int64)]) (rest := []) ⟨hx, hb, hml, hown, hts⟩ (c_X8_in l dC dI cI cZ cG    a2.toInt64 (0 : Int64) (9 : Int64) hc5) (va_cwS 3 hts gX8_taste_X8_in rfl rfl rfl (by decide +kernel) ⟨Nat.le_of_ble_eq_true rfl, Nat.le_of_ble_eq_true rfl⟩) hK hN (hP.sub [] rfl) rfl hl.1 rfl (Nat.le_of_ble_eq_true rfl) dX8_taste_23 ⟨Nat.zero_le _, Nat.zero_le _⟩ ?_
    refine lv_if_ne (tgt := 32) hx hb dX8_taste_26 (by decide) (fun c6 => ?_) (fun c6 => ?_)
    · have hf := g_neg c6 hf
      refine lv_aload_n hx hb dX8_taste_32 rfl (lv_at hl 0 rfl) ?_
      refine va_get (D := (dC, dI)) (ci := 8) (v := .int v_tasted) (C := RX8) (T := TX8) (N := 33) hx hb hts hiX8 hown hK hP 0 rfl rfl 16 (by decide) (hts (.fieldLink RX8 135 "GreenJarsModel" "tasted" "I") (by decide +kernel)) (fun _ h9 => h9) rfl dX8_taste_33 ?_
      refine lv_bipush (v := (6 : Int32)) hx hb dX8_taste_36 (by decide +kernel) ?_
      refine lv_icmp_ne (tgt := 44) hx hb dX8_taste_38 (by decide) (fun c7 => ?_) (fun c7 => ?_)
      · have hf := g_neg c7 hf
        refine lv_aload_n hx hb dX8_taste_44 rfl (lv_at hl 0 rfl) ?_
        refine va_get (D := (dC, dI)) (ci := 8) (v := .ref o_tastedFrom) (C := RX8) (T := TX8) (N := 33) hx hb hts hiX8 hown hK hP 0 rfl rfl 17 (by decide) (hts (.fieldLink RX8 38 "GreenJarsModel" "tastedFrom" "[I") (by decide +kernel)) (fun _ h9 => h9) rfl dX8_taste_45 ?_
        refine lv_aload_n hx hb dX8_taste_48 rfl (lv_at hl 0 rfl) ?_
        refine va_get (D := (dC, dI)) (ci := 8) (v := .int v_tasted) (C := RX8) (T := TX8) (N := 33) hx hb hts hiX8 hown hK hP 0 rfl rfl 16 (by decide) (hts (.fieldLink RX8 135 "GreenJarsModel" "tasted" "I") (by decide +kernel)) (fun _ h9 => h9) rfl dX8_taste_49 ?_
        refine lv_iload_n hx hb dX8_taste_52 rfl (lv_at hl 1 rfl) ?_
        obtain ⟨h8, hf⟩ := g_chk hf
        refine va_iast hx hb hK hP hD hS 1 0 rfl rfl (gIn_vp h8) dX8_taste_53 (fun H locs hP hD hS => ?_)
        have hP : va_P (dC, dI) vwCl (w_X8_taste cI cZ cG o o_text o_kind o_size o_readJar o_page o_trial o_book o_kept o_isKept o_tastedFrom o_tastedTo o_order o_spots o_gains o_value (0 : Int32) v_textSize v_place v_jars v_readPlaces v_readJars v_acts v_tasted v_seed v_some v_rowMany v_rowWay v_stuffWhich v_stuffNear v_keptMany v_keptFirst v_restMany v_restFirst (upd f_tastedFrom v_tasted.toNatClampNeg a1) f_tastedTo) H := hP
        have hD : va_D A (w_X8_taste cI cZ cG o o_text o_kind o_size o_readJar o_page o_trial o_book o_kept o_isKept o_tastedFrom o_tastedTo o_order o_spots o_gains o_value (0 : Int32) v_textSize v_place v_jars v_readPlaces v_readJars v_acts v_tasted v_seed v_some v_rowMany v_rowWay v_stuffWhich v_stuffNear v_keptMany v_keptFirst v_restMany v_restFirst (upd f_tastedFrom v_tasted.toNatClampNeg a1) f_tastedTo) := hD
        refine lv_aload_n hx hb dX8_taste_54 rfl (lv_at hl 0 rfl) ?_
        refine va_get (D := (dC, dI)) (ci := 8) (v := .ref o_tastedTo) (C := RX8) (T := TX8) (N := 33) hx hb hts hiX8 hown hK hP 0 rfl rfl 18 (by decide) (hts (.fieldLink RX8 41 "GreenJarsModel" "tastedTo" "[I") (by decide +kernel)) (fun _ h9 => h9) rfl dX8_taste_55 ?_
        refine lv_aload_n hx hb dX8_taste_58 rfl (lv_at hl 0 rfl) ?_
        refine va_get (D := (dC, dI)) (ci := 8) (v := .int v_tasted) (C := RX8) (T := TX8) (N := 33) hx hb hts hiX8 hown hK hP 0 rfl rfl 16 (by decide) (hts (.fieldLink RX8 135 "GreenJarsModel" "tasted" "I") (by decide +kernel)) (fun _ h9 => h9) rfl dX8_taste_59 ?_
        refine lv_iload_n hx hb dX8_taste_62 rfl (lv_at hl 2 rfl) ?_
        obtain ⟨h9, hf⟩ := g_chk hf
        refine va_iast hx hb hK hP hD hS 2 0 rfl rfl (gIn_vp h9) dX8_taste_63 (fun H locs hP hD hS => ?_)
        have hP : va_P (dC, dI) vwCl (w_X8_taste cI cZ cG o o_text o_kind o_size o_readJar o_page o_trial o_book o_kept o_isKept o_tastedFrom o_tastedTo o_order o_spots o_gains o_value (0 : Int32) v_textSize v_place v_jars v_readPlaces v_readJars v_acts v_tasted v_seed v_some v_rowMany v_rowWay v_stuffWhich v_stuffNear v_keptMany v_keptFirst v_restMany v_restFirst (upd f_tastedFrom v_tasted.toNatClampNeg a1) (upd f_tastedTo v_tasted.toNatClampNeg a2)) H := hP
        have hD : va_D A (w_X8_taste cI cZ cG o o_text o_kind o_size o_readJar o_page o_trial o_book o_kept o_isKept o_tastedFrom o_tastedTo o_order o_spots o_gains o_value (0 : Int32) v_textSize v_place v_jars v_readPlaces v_readJars v_acts v_tasted v_seed v_some v_rowMany v_rowWay v_stuffWhich v_stuffNear v_keptMany v_keptFirst v_restMany v_restFirst (upd f_tastedFrom v_tasted.toNatClampNeg a1) (upd f_tastedTo v_tasted.toNatClampNeg a2)) := hD
        refine lv_aload_n hx hb dX8_taste_64 rfl (lv_at hl 0 rfl) ?_
        refine lv_dup hx hb dX8_taste_65 rfl ?_
        refine va_get (D := (dC, dI)) (ci := 8) (v := .int v_tasted) (C := RX8) (T := TX8) (N := 33) hx hb hts hiX8 hown hK hP 0 rfl rfl 16 (by decide) (hts (.fieldLink RX8 135 "GreenJarsModel" "tasted" "I") (by decide +kernel)) (fun _ h9 => h9) rfl dX8_taste_66 ?_
        refine lv_iconst (v := (1 : Int32)) hx hb dX8_taste_69 (by decide) ?_
        refine lv_iadd hx hb dX8_taste_70 ?_
        refine va_put (D := (dC, dI)) (ci := 8) (v := .int (v_tasted + (1 : Int32))) (ty := .int) (C := RX8) (T := TX8) (N := 33) hx hb hts hiX8 tyX8 tyX8_ok nmX8 hown hK hP hD hS 0 rfl rfl 16 (by decide) (hts (.fieldLink RX8 135 "GreenJarsModel" "tasted" "I") (by decide +kernel)) (fun _ h9 => h9) rfl (by decide +kernel) rfl rfl (Nat.le_of_ble_eq_true rfl) dX8_taste_71 (fun H locs hP hD hS => ?_)
        have hP : va_P (dC, dI) vwCl (w_X8_taste cI cZ cG o o_text o_kind o_size o_readJar o_page o_trial o_book o_kept o_isKept o_tastedFrom o_tastedTo o_order o_spots o_gains o_value (0 : Int32) v_textSize v_place v_jars v_readPlaces v_readJars v_acts (v_tasted + (1 : Int32)) v_seed v_some v_rowMany v_rowWay v_stuffWhich v_stuffNear v_keptMany v_keptFirst v_restMany v_restFirst (upd f_tastedFrom v_tasted.toNatClampNeg a1) (upd f_tastedTo v_tasted.toNatClampNeg a2)) H := hP
        have hD : va_D A (w_X8_taste cI cZ cG o o_text o_kind o_size o_readJar o_page o_trial o_book o_kept o_isKept o_tastedFrom o_tastedTo o_order o_spots o_gains o_value (0 : Int32) v_textSize v_place v_jars v_readPlaces v_readJars v_acts (v_tasted + (1 : Int32)) v_seed v_some v_rowMany v_rowWay v_stuffWhich v_stuffNear v_keptMany v_keptFirst v_restMany v_restFirst (upd f_tastedFrom v_tasted.toNatClampNeg a1) (upd f_tastedTo v_tasted.toNatClampNeg a2)) := hD
        refine lv_aload_n hx hb dX8_taste_74 rfl (lv_at hl 0 rfl) ?_
        refine va_get (D := (dC, dI)) (ci := 8) (v := .int (v_tasted + (1 : Int32))) (C := RX8) (T := TX8) (N := 33) hx hb hts hiX8 hown hK hP 0 rfl rfl 16 (by decide) (hts (.fieldLink RX8 135 "GreenJarsModel" "tasted" "I") (by decide +kernel)) (fun _ h9 => h9) rfl dX8_taste_75 ?_
        rw [hQ]
        cases hf
        exact W.iret hx hb hr (fun t ht hW => ⟨⟨_, (), rfl, rfl, by rw [ht]; exact hP, va_K.moved hW.alike hK, hD⟩, hS.F ht⟩) hS.2.2 dX8_taste_78
      · have hf := g_pos c7 hf
        refine lv_bipush (v := (-4 : Int32)) hx hb dX8_taste_41 (by decide +kernel) ?_
        rw [hQ]
        cases hf
        exact W.iret hx hb hr (fun t ht hW => ⟨⟨_, (), rfl, rfl, by rw [ht]; exact hP, va_K.moved hW.alike hK, hD⟩, hS.F ht⟩) hS.2.2 dX8_taste_43
    · have hf := g_pos c6 hf
      refine lv_bipush (v := (-2 : Int32)) hx hb dX8_taste_29 (by decide +kernel) ?_
      rw [hQ]
      cases hf
      exact W.iret hx hb hr (fun t ht hW => ⟨⟨_, (), rfl, rfl, by rw [ht]; exact hP, va_K.moved hW.alike hK, hD⟩, hS.F ht⟩) hS.2.2 dX8_taste_31
abbrev rm_X8_untaste : Room := { frames := 0, cells := 0, slots := 0, locals := 0 }
abbrev w_X8_untaste (cI cZ cG : ClassId) (o : Nat) (o_text : Nat) (o_kind : Nat) (o_size : Nat) (o_readJar : Nat) (o_page : Nat) (o_trial : Nat) (o_book : Nat) (o_kept : Nat) (o_isKept : Nat) (o_tastedFrom : Nat) (o_tastedTo : Nat) (o_order : Nat) (o_spots : Nat) (o_gains : Nat) (o_value : Nat) (v_thrown : Int32) (v_textSize : Int32) (v_place : Int32) (v_jars : Int32) (v_readPlaces : Int32) (v_readJars : Int32) (v_acts : Int32) (v_tasted : Int32) (v_seed : Int64) (v_some : Int32) (v_rowMany : Int32) (v_rowWay : Int32) (v_stuffWhich : Int32) (v_stuffNear : Int32) (v_keptMany : Int32) (v_keptFirst : Int32) (v_restMany : Int32) (v_restFirst : Int32) : va_W := [(o, .inr (8, [.int v_thrown, .ref o_text, .int v_textSize, .int v_place, .int v_jars, .ref o_kind, .ref o_size, .int v_readPlaces, .int v_readJars, .ref o_readJar, .ref o_page, .ref o_trial, .ref o_book, .int v_acts, .ref o_kept, .ref o_isKept, .int v_tasted, .ref o_tastedFrom, .ref o_tastedTo, .long v_seed, .int v_some, .ref o_order, .ref o_spots, .int v_rowMany, .int v_rowWay, .int v_stuffWhich, .int v_stuffNear, .int v_keptMany, .int v_keptFirst, .int v_restMany, .int v_restFirst, .ref o_gains, .ref o_value]))]
set_option maxHeartbeats 4000000 in
set_option maxRecDepth 100000 in
theorem c_X8_untaste (l : Launch) (dC : Nat → ClassId) (dI : Nat → Nat → Nat) (cI cZ cG : ClassId) (o : Nat) (o_text : Nat) (o_kind : Nat) (o_size : Nat) (o_readJar : Nat) (o_page : Nat) (o_trial : Nat) (o_book : Nat) (o_kept : Nat) (o_isKept : Nat) (o_tastedFrom : Nat) (o_tastedTo : Nat) (o_order : Nat) (o_spots : Nat) (o_gains : Nat) (o_value : Nat) (sz : Nat) (v_thrown : Int32) (v_textSize : Int32) (v_place : Int32) (v_jars : Int32) (v_readPlaces : Int32) (v_readJars : Int32) (v_acts : Int32) (v_tasted : Int32) (v_seed : Int64) (v_some : Int32) (v_rowMany : Int32) (v_rowWay : Int32) (v_stuffWhich : Int32) (v_stuffNear : Int32) (v_keptMany : Int32) (v_keptFirst : Int32) (v_restMany : Int32) (v_restFirst : Int32) {r0 : Int32} {n_thrown : Int32} {n_tasted : Int32} (hf : x8_untaste v_thrown v_tasted = some (r0, n_thrown, n_tasted)) : Met l yX8_untaste wsX8_untaste rm_X8_untaste (va_Pc [.ref o] (gW (dC, dI) vwCl (gT cI cZ cG) (w_X8_untaste cI cZ cG o o_text o_kind o_size o_readJar o_page o_trial o_book o_kept o_isKept o_tastedFrom o_tastedTo o_order o_spots o_gains o_value v_thrown v_textSize v_place v_jars v_readPlaces v_readJars v_acts v_tasted v_seed v_some v_rowMany v_rowWay v_stuffWhich v_stuffNear v_keptMany v_keptFirst v_restMany v_restFirst) sz)) (va_Qi (fun r _ => r = r0) (gE (dC, dI) vwCl (gT cI cZ cG) (w_X8_untaste cI cZ cG o o_text o_kind o_size o_readJar o_page o_trial o_book o_kept o_isKept o_tastedFrom o_tastedTo o_order o_spots o_gains o_value n_thrown v_textSize v_place v_jars v_readPlaces v_readJars v_acts n_tasted v_seed v_some v_rowMany v_rowWay v_stuffWhich v_stuffNear v_keptMany v_keptFirst v_restMany v_restFirst) (va_A (w_X8_untaste cI cZ cG o o_text o_kind o_size o_readJar o_page o_trial o_book o_kept o_isKept o_tastedFrom o_tastedTo o_order o_spots o_gains o_value v_thrown v_textSize v_place v_jars v_readPlaces v_readJars v_acts v_tasted v_seed v_some v_rowMany v_rowWay v_stuffWhich v_stuffNear v_keptMany v_keptFirst v_restMany v_restFirst) sz)) (va_A (w_X8_untaste cI cZ cG o o_text o_kind o_size o_readJar o_page o_trial o_book o_kept o_isKept o_tastedFrom o_tastedTo o_order o_spots o_gains o_value v_thrown v_textSize v_place v_jars v_readPlaces v_readJars v_acts v_tasted v_seed v_some v_rowMany v_rowWay v_stuffWhich v_stuffNear v_keptMany v_keptFirst v_restMany v_restFirst) sz)) 0 0 (va_A (w_X8_untaste cI cZ cG o o_text o_kind o_size o_readJar o_page o_trial o_book o_kept o_isKept o_tastedFrom o_tastedTo o_order o_spots o_gains o_value v_thrown v_textSize v_place v_jars v_readPlaces v_readJars v_acts v_tasted v_seed v_some v_rowMany v_rowWay v_stuffWhich v_stuffNear v_keptMany v_keptFirst v_restMany v_restFirst) sz) := by
  refine Met.ofW (cc := cX8_untaste) (maxL := 2) (ret := (some .int)) (by decide) rfl ?_
  intro p e s m args below meth c s₁ B hml hv
  obtain ⟨rfl, hv⟩ := hv
  obtain ⟨hsz, hP, hK, hN, hD0⟩ := hv
  have hx := B.exec
  have hb := B.bytes
  have hr := B.returns
  have hts := atoms_spec (ws := wsX8_untaste) B.pre
  have hown : s.vm.findClass RX8 = some m.cls := findClass_of_methodNamed B.named
  have hlocks := B.notSynchronized
  have hiX8 : ∀ w ∈ u_ws RX8 TX8 33, w ∈ wsX8_untaste := fun w h => List.mem_cons_of_mem _ (List.mem_append_right _ h)
  subst hsz
  have hD := hD0.self (sz := s.heap.size)
  generalize hAe : va_A (w_X8_untaste cI cZ cG o o_text o_kind o_size o_readJar o_page o_trial o_book o_kept o_isKept o_tastedFrom o_tastedTo o_order o_spots o_gains o_value v_thrown v_textSize v_place v_jars v_readPlaces v_readJars v_acts v_tasted v_seed v_some v_rowMany v_rowWay v_stuffWhich v_stuffNear v_keptMany v_keptFirst v_restMany v_restFirst) s.heap.size = A at hD ⊢
  have hA : ∀ q : Nat, s.heap.size ≤ q → A q := fun q h => by rw [← hAe]; exact Or.inr h
  clear hD0
  have hS : va_S A s.heap s.heap [] := va_S.rf
  have hP : va_P (dC, dI) vwCl (w_X8_untaste cI cZ cG o o_text o_kind o_size o_readJar o_page o_trial o_book o_kept o_isKept o_tastedFrom o_tastedTo o_order o_spots o_gains o_value v_thrown v_textSize v_place v_jars v_readPlaces v_readJars v_acts v_tasted v_seed v_some v_rowMany v_rowWay v_stuffWhich v_stuffNear v_keptMany v_keptFirst v_restMany v_restFirst) s.heap := hP
  obtain ⟨Q, hQ⟩ : ∃ Q : State → Prop, Q = MQ below (va_Qi (fun r _ => r = r0) (gE (dC, dI) vwCl (gT cI cZ cG) (w_X8_untaste cI cZ cG o o_text o_kind o_size o_readJar o_page o_trial o_book o_kept o_isKept o_tastedFrom o_tastedTo o_order o_spots o_gains o_value n_thrown v_textSize v_place v_jars v_readPlaces v_readJars v_acts n_tasted v_seed v_some v_rowMany v_rowWay v_stuffWhich v_stuffNear v_keptMany v_keptFirst v_restMany v_restFirst) A) A) (([Value.ref o] : List Value).toArray) s 0 0 A := ⟨_, rfl⟩
  have hl := lv_entry ([.ref o]) (n := 2) (Nat.le_of_ble_eq_true rfl)
  rw [← hQ, lg_entry_eq]
  generalize (lg_sl ([.ref o]) ++ List.replicate (2 - (lg_sl ([.ref o])).length) Slot.unset).toArray = ls at hl ⊢
  have hl : lv_has ls 2 [(0, .ref o)] := hl
  generalize hH : s.heap = H at hP hS ⊢
  have hS : va_S A s.heap H [] := by rw [hH]; exact hS
  generalize hlc : ([] : List Loc) = locs at hS ⊢
  show W p l e rm_X8_untaste s m (([Value.ref o] : List Value).toArray) below meth c H locs 0 0 Q (F0 m 0 ls [])
  unfold x8_untaste at hf
  refine lv_aload_n hx hb dX8_untaste_0 rfl (lv_at hl 0 rfl) ?_
  refine lv_iconst (v := (0 : Int32)) hx hb dX8_untaste_1 (by decide) ?_
  refine va_put (D := (dC, dI)) (ci := 8) (v := .int (0 : Int32)) (ty := .int) (C := RX8) (T := TX8) (N := 33) hx hb hts hiX8 tyX8 tyX8_ok nmX8 hown hK hP hD hS 0 rfl rfl 0 (by decide) (hts (.fieldLink RX8 56 "GreenJarsModel" "thrown" "I") (by decide +kernel)) (fun _ h9 => h9) rfl (by decide +kernel) rfl rfl (Nat.le_of_ble_eq_true rfl) dX8_untaste_2 (fun H locs hP hD hS => ?_)
  have hP : va_P (dC, dI) vwCl (w_X8_untaste cI cZ cG o o_text o_kind o_size o_readJar o_page o_trial o_book o_kept o_isKept o_tastedFrom o_tastedTo o_order o_spots o_gains o_value (0 : Int32) v_textSize v_place v_jars v_readPlaces v_readJars v_acts v_tasted v_seed v_some v_rowMany v_rowWay v_stuffWhich v_stuffNear v_keptMany v_keptFirst v_restMany v_restFirst) H := hP
  have hD : va_D A (w_X8_untaste cI cZ cG o o_text o_kind o_size o_readJar o_page o_trial o_book o_kept o_isKept o_tastedFrom o_tastedTo o_order o_spots o_gains o_value (0 : Int32) v_textSize v_place v_jars v_readPlaces v_readJars v_acts v_tasted v_seed v_some v_rowMany v_rowWay v_stuffWhich v_stuffNear v_keptMany v_keptFirst v_restMany v_restFirst) := hD
  refine lv_aload_n hx hb dX8_untaste_5 rfl (lv_at hl 0 rfl) ?_
  refine va_get (D := (dC, dI)) (ci := 8) (v := .int v_tasted) (C := RX8) (T := TX8) (N := 33) hx hb hts hiX8 hown hK hP 0 rfl rfl 16 (by decide) (hts (.fieldLink RX8 135 "GreenJarsModel" "tasted" "I") (by decide +kernel)) (fun _ h9 => h9) rfl dX8_untaste_6 ?_
  refine lv_istore_n (lv' := [(1, .int v_tasted), (0, .ref o)]) hx hb dX8_untaste_9 rfl hl (by decide) rfl (fun ls hl => ?_)
  refine lv_aload_n hx hb dX8_untaste_10 rfl (lv_at hl 1 rfl) ?_
  refine lv_iconst (v := (0 : Int32)) hx hb dX8_untaste_11 (by decide) ?_
  refine va_put (D := (dC, dI)) (ci := 8) (v := .int (0 : Int32)) (ty := .int) (C := RX8) (T := TX8) (N := 33) hx hb hts hiX8 tyX8 tyX8_ok nmX8 hown hK hP hD hS 0 rfl rfl 16 (by decide) (hts (.fieldLink RX8 135 "GreenJarsModel" "tasted" "I") (by decide +kernel)) (fun _ h9 => h9) rfl (by decide +kernel) rfl rfl (Nat.le_of_ble_eq_true rfl) dX8_untaste_12 (fun H locs hP hD hS => ?_)
  have hP : va_P (dC, dI) vwCl (w_X8_untaste cI cZ cG o o_text o_kind o_size o_readJar o_page o_trial o_book o_kept o_isKept o_tastedFrom o_tastedTo o_order o_spots o_gains o_value (0 : Int32) v_textSize v_place v_jars v_readPlaces v_readJars v_acts (0 : Int32) v_seed v_some v_rowMany v_rowWay v_stuffWhich v_stuffNear v_keptMany v_keptFirst v_restMany v_restFirst) H := hP
  have hD : va_D A (w_X8_untaste cI cZ cG o o_text o_kind o_size o_readJar o_page o_trial o_book o_kept o_isKept o_tastedFrom o_tastedTo o_order o_spots o_gains o_value (0 : Int32) v_textSize v_place v_jars v_readPlaces v_readJars v_acts (0 : Int32) v_seed v_some v_rowMany v_rowWay v_stuffWhich v_stuffNear v_keptMany v_keptFirst v_restMany v_restFirst) := hD
  refine lv_iload_n hx hb dX8_untaste_15 rfl (lv_at hl 0 rfl) ?_
  rw [hQ]
  cases hf
  exact W.iret hx hb hr (fun t ht hW => ⟨⟨_, (), rfl, rfl, by rw [ht]; exact hP, va_K.moved hW.alike hK, hD⟩, hS.F ht⟩) hS.2.2 dX8_untaste_16
abbrev rm_X8_soakedFor : Room := { frames := 1, cells := 0, slots := 0, locals := 21 }
abbrev w_X8_soakedFor (cI cZ cG : ClassId) : va_W := []
set_option maxHeartbeats 4000000 in
set_option maxRecDepth 100000 in
theorem c_X8_soakedFor (l : Launch) (dC : Nat → ClassId) (dI : Nat → Nat → Nat) (cI cZ cG : ClassId) {N : Nat} (a0 : Int32) (a1 : Int32) (a2 : Int32) {r0 : Int32} (hf : x8_soakedFor N a0 a1 a2 = some r0) : Met l yX8_soakedFor wsX8_soakedFor rm_X8_soakedFor (va_Pc [.int a0, .int a1, .int a2] (gR (dC, dI) vwCl (gT cI cZ cG) (w_X8_soakedFor cI cZ cG))) (vp_Si (fun r => r = r0)) 0 0 (fun _ => False) := by
  refine Met.ofW (cc := cX8_soakedFor) (maxL := 5) (ret := (some .int)) (by decide) rfl ?_
  intro p e s m args below meth c s₁ B hml hv
  obtain ⟨rfl, hv⟩ := hv
  obtain ⟨hP, hK, hN⟩ := hv
  have hx := B.exec
  have hb := B.bytes
  have hr := B.returns
  have hts := atoms_spec (ws := wsX8_soakedFor) B.pre
  have hown : s.vm.findClass RX8 = some m.cls := findClass_of_methodNamed B.named
  have hlocks := B.notSynchronized
  obtain ⟨Q, hQ⟩ : ∃ Q : State → Prop, Q = MQ below (vp_Si (fun r => r = r0)) (([Value.int a0, Value.int a1, Value.int a2] : List Value).toArray) s 0 0 (fun _ => False) := ⟨_, rfl⟩
  have hl := lv_entry ([.int a0, .int a1, .int a2]) (n := 5) (Nat.le_of_ble_eq_true rfl)
  rw [← hQ, lg_entry_eq]
  generalize (lg_sl ([.int a0, .int a1, .int a2]) ++ List.replicate (5 - (lg_sl ([.int a0, .int a1, .int a2])).length) Slot.unset).toArray = ls at hl ⊢
  have hl : lv_has ls 5 [(0, .int a0), (1, .int a1), (2, .int a2)] := hl
  show W p l e rm_X8_soakedFor s m (([Value.int a0, Value.int a1, Value.int a2] : List Value).toArray) below meth c s.heap [] 0 0 Q (F0 m 0 ls [])
  have L5 : ∀ (n5 : Nat), ∀ (x3 : Int32) (x4 : Int32) (ls : Array Slot), x8_soakedFor_b5 N a0 a1 a2 n5 x3 x4 = some r0 → lv_has ls 5 [(1, .int a1), (2, .int a2), (3, .int x3), (4, .int x4)] → W p l e rm_X8_soakedFor s m (([Value.int a0, Value.int a1, Value.int a2] : List Value).toArray) below meth c s.heap [] 0 0 Q (F0 m 5 ls []) := by
    intro n5
    induction n5 with
    | zero =>
      intro x3 x4 ls hf hl
      exact g_no hf
    | succ n5 ih5 =>
      intro x3 x4 ls hf hl
      unfold x8_soakedFor_b5 at hf
      refine lv_iload hx hb dX8_soakedFor_5 (lv_at hl 3 rfl) ?_
      refine lv_iload_n hx hb dX8_soakedFor_7 rfl (lv_at hl 1 rfl) ?_
      refine lv_icmp_ge (tgt := 23) hx hb dX8_soakedFor_8 (by decide) (fun c1 => ?_) (fun c1 => ?_)
      · have hf := g_pos c1 hf
        refine lv_iload_n hx hb dX8_soakedFor_23 rfl (lv_at hl 2 rfl) ?_
        rw [hQ]
        exact W.iret (v := x3) hx hb hr (fun t ht hW => ⟨_, rfl, Option.some.inj hf, ht⟩) (fun q h => by cases h) dX8_soakedFor_24
      · have hf := g_neg c1 hf
        refine lv_iload_n hx hb dX8_soakedFor_11 rfl (lv_at hl 2 rfl) ?_
        refine lv_iload_n hx hb dX8_soakedFor_12 rfl (lv_at hl 0 rfl) ?_
        obtain ⟨r2, hc3, hf⟩ := g_b1 hf
        refine g_rS (As := [.int x3, .int a1]) (rest := []) ⟨hx, hb, hml, hown, hts⟩ (c_X8_soaked l dC dI cI cZ cG    x3 a1 hc3) (va_cwS 2 hts gX8_soakedFor_X8_soaked rfl rfl rfl (by decide +kernel) ⟨Nat.le_of_ble_eq_true rfl, Nat.le_of_ble_eq_true rfl⟩) hK hN (hP.sub [] rfl) rfl hl.1 rfl (Nat.le_of_ble_eq_true rfl) dX8_soakedFor_13 ⟨Nat.zero_le _, Nat.zero_le _⟩ ?_
        refine lv_istore_n (lv' := [(3, .int r2), (1, .int a1), (2, .int a2), (4, .int x4)]) hx hb dX8_soakedFor_16 rfl hl (by decide) rfl (fun ls hl => ?_)
        refine lv_iinc (v := (x4 + (1 : Int32))) (lv' := [(4, .int (x4 + (1 : Int32))), (3, .int r2), (1, .int a1), (2, .int a2)]) hx hb dX8_soakedFor_17 hl (k := 3) rfl rfl (by decide) rfl (fun ls hl => ?_)
        refine lv_goto (tgt := 5) hx hb dX8_soakedFor_20 (by decide) ?_
        exact ih5 r2 (x4 + (1 : Int32)) ls hf (lv_sub hl [2, 3, 1, 0] rfl)
  unfold x8_soakedFor at hf
  refine lv_iload_n hx hb dX8_soakedFor_0 rfl (lv_at hl 0 rfl) ?_
  refine lv_istore_n (lv' := [(3, .int a0), (0, .int a0), (1, .int a1), (2, .int a2)]) hx hb dX8_soakedFor_1 rfl hl (by decide) rfl (fun ls hl => ?_)
  refine lv_iconst (v := (0 : Int32)) hx hb dX8_soakedFor_2 (by decide) ?_
  refine lv_istore (lv' := [(4, .int (0 : Int32)), (3, .int a0), (0, .int a0), (1, .int a1), (2, .int a2)]) hx hb dX8_soakedFor_3 hl (by decide) rfl (fun ls hl => ?_)
  exact L5 N a0 (0 : Int32) ls hf (lv_sub hl [3, 4, 1, 0] rfl)
abbrev rm_X8_kept : Room := { frames := 2, cells := 0, slots := 0, locals := 45 }
abbrev w_X8_kept (cI cZ cG : ClassId) (o : Nat) (o_text : Nat) (o_kind : Nat) (o_size : Nat) (o_readJar : Nat) (o_page : Nat) (o_trial : Nat) (o_book : Nat) (o_kept : Nat) (o_isKept : Nat) (o_tastedFrom : Nat) (o_tastedTo : Nat) (o_order : Nat) (o_spots : Nat) (o_gains : Nat) (o_value : Nat) (v_thrown : Int32) (v_textSize : Int32) (v_place : Int32) (v_jars : Int32) (v_readPlaces : Int32) (v_readJars : Int32) (v_acts : Int32) (v_tasted : Int32) (v_seed : Int64) (v_some : Int32) (v_rowMany : Int32) (v_rowWay : Int32) (v_stuffWhich : Int32) (v_stuffNear : Int32) (v_keptMany : Int32) (v_keptFirst : Int32) (v_restMany : Int32) (v_restFirst : Int32) (f_tastedFrom : Nat → Int32) (f_tastedTo : Nat → Int32) : va_W := [(o, .inr (8, [.int v_thrown, .ref o_text, .int v_textSize, .int v_place, .int v_jars, .ref o_kind, .ref o_size, .int v_readPlaces, .int v_readJars, .ref o_readJar, .ref o_page, .ref o_trial, .ref o_book, .int v_acts, .ref o_kept, .ref o_isKept, .int v_tasted, .ref o_tastedFrom, .ref o_tastedTo, .long v_seed, .int v_some, .ref o_order, .ref o_spots, .int v_rowMany, .int v_rowWay, .int v_stuffWhich, .int v_stuffNear, .int v_keptMany, .int v_keptFirst, .int v_restMany, .int v_restFirst, .ref o_gains, .ref o_value])), (o_tastedFrom, .inl (cI, 6, .inl f_tastedFrom)), (o_tastedTo, .inl (cI, 6, .inl f_tastedTo))]
set_option maxHeartbeats 4000000 in
set_option maxRecDepth 100000 in
theorem c_X8_kept (l : Launch) (dC : Nat → ClassId) (dI : Nat → Nat → Nat) (cI cZ cG : ClassId) {N : Nat} (o : Nat) (o_text : Nat) (o_kind : Nat) (o_size : Nat) (o_readJar : Nat) (o_page : Nat) (o_trial : Nat) (o_book : Nat) (o_kept : Nat) (o_isKept : Nat) (o_tastedFrom : Nat) (o_tastedTo : Nat) (o_order : Nat) (o_spots : Nat) (o_gains : Nat) (o_value : Nat) (sz : Nat) (v_thrown : Int32) (v_textSize : Int32) (v_place : Int32) (v_jars : Int32) (v_readPlaces : Int32) (v_readJars : Int32) (v_acts : Int32) (v_tasted : Int32) (v_seed : Int64) (v_some : Int32) (v_rowMany : Int32) (v_rowWay : Int32) (v_stuffWhich : Int32) (v_stuffNear : Int32) (v_keptMany : Int32) (v_keptFirst : Int32) (v_restMany : Int32) (v_restFirst : Int32) (f_tastedFrom : Nat → Int32) (f_tastedTo : Nat → Int32) (a1 : Int32) {r0 : Int32} {n_thrown : Int32} {n_keptMany : Int32} {n_keptFirst : Int32} (hf : x8_kept N v_thrown v_tasted v_keptMany v_keptFirst f_tastedFrom f_tastedTo a1 = some (r0, n_thrown, n_keptMany, n_keptFirst)) : Met l yX8_kept wsX8_kept rm_X8_kept (va_Pc [.ref o, .int a1] (gW (dC, dI) vwCl (gT cI cZ cG) (w_X8_kept cI cZ cG o o_text o_kind o_size o_readJar o_page o_trial o_book o_kept o_isKept o_tastedFrom o_tastedTo o_order o_spots o_gains o_value v_thrown v_textSize v_place v_jars v_readPlaces v_readJars v_acts v_tasted v_seed v_some v_rowMany v_rowWay v_stuffWhich v_stuffNear v_keptMany v_keptFirst v_restMany v_restFirst f_tastedFrom f_tastedTo) sz)) (va_Qi (fun r _ => r = r0) (gE (dC, dI) vwCl (gT cI cZ cG) (w_X8_kept cI cZ cG o o_text o_kind o_size o_readJar o_page o_trial o_book o_kept o_isKept o_tastedFrom o_tastedTo o_order o_spots o_gains o_value n_thrown v_textSize v_place v_jars v_readPlaces v_readJars v_acts v_tasted v_seed v_some v_rowMany v_rowWay v_stuffWhich v_stuffNear n_keptMany n_keptFirst v_restMany v_restFirst f_tastedFrom f_tastedTo) (va_A (w_X8_kept cI cZ cG o o_text o_kind o_size o_readJar o_page o_trial o_book o_kept o_isKept o_tastedFrom o_tastedTo o_order o_spots o_gains o_value v_thrown v_textSize v_place v_jars v_readPlaces v_readJars v_acts v_tasted v_seed v_some v_rowMany v_rowWay v_stuffWhich v_stuffNear v_keptMany v_keptFirst v_restMany v_restFirst f_tastedFrom f_tastedTo) sz)) (va_A (w_X8_kept cI cZ cG o o_text o_kind o_size o_readJar o_page o_trial o_book o_kept o_isKept o_tastedFrom o_tastedTo o_order o_spots o_gains o_value v_thrown v_textSize v_place v_jars v_readPlaces v_readJars v_acts v_tasted v_seed v_some v_rowMany v_rowWay v_stuffWhich v_stuffNear v_keptMany v_keptFirst v_restMany v_restFirst f_tastedFrom f_tastedTo) sz)) 0 0 (va_A (w_X8_kept cI cZ cG o o_text o_kind o_size o_readJar o_page o_trial o_book o_kept o_isKept o_tastedFrom o_tastedTo o_order o_spots o_gains o_value v_thrown v_textSize v_place v_jars v_readPlaces v_readJars v_acts v_tasted v_seed v_some v_rowMany v_rowWay v_stuffWhich v_stuffNear v_keptMany v_keptFirst v_restMany v_restFirst f_tastedFrom f_tastedTo) sz) := by
  refine Met.ofW (cc := cX8_kept) (maxL := 5) (ret := (some .int)) (by decide) rfl ?_
  intro p e s m args below meth c s₁ B hml hv
  obtain ⟨rfl, hv⟩ := hv
  obtain ⟨hsz, hP, hK, hN, hD0⟩ := hv
  have hx := B.exec
  have hb := B.bytes
  have hr := B.returns
  have hts := atoms_spec (ws := wsX8_kept) B.pre
  have hown : s.vm.findClass RX8 = some m.cls := findClass_of_methodNamed B.named
  have hlocks := B.notSynchronized
  have hiX8 : ∀ w ∈ u_ws RX8 TX8 33, w ∈ wsX8_kept := fun w h => List.mem_cons_of_mem _ (List.mem_append_right _ h)
  subst hsz
  have hD := hD0.self (sz := s.heap.size)
  generalize hAe : va_A (w_X8_kept cI cZ cG o o_text o_kind o_size o_readJar o_page o_trial o_book o_kept o_isKept o_tastedFrom o_tastedTo o_order o_spots o_gains o_value v_thrown v_textSize v_place v_jars v_readPlaces v_readJars v_acts v_tasted v_seed v_some v_rowMany v_rowWay v_stuffWhich v_stuffNear v_keptMany v_keptFirst v_restMany v_restFirst f_tastedFrom f_tastedTo) s.heap.size = A at hD ⊢
  have hA : ∀ q : Nat, s.heap.size ≤ q → A q := fun q h => by rw [← hAe]; exact Or.inr h
  clear hD0
  have hS : va_S A s.heap s.heap [] := va_S.rf
  have hP : va_P (dC, dI) vwCl (w_X8_kept cI cZ cG o o_text o_kind o_size o_readJar o_page o_trial o_book o_kept o_isKept o_tastedFrom o_tastedTo o_order o_spots o_gains o_value v_thrown v_textSize v_place v_jars v_readPlaces v_readJars v_acts v_tasted v_seed v_some v_rowMany v_rowWay v_stuffWhich v_stuffNear v_keptMany v_keptFirst v_restMany v_restFirst f_tastedFrom f_tastedTo) s.heap := hP
  obtain ⟨Q, hQ⟩ : ∃ Q : State → Prop, Q = MQ below (va_Qi (fun r _ => r = r0) (gE (dC, dI) vwCl (gT cI cZ cG) (w_X8_kept cI cZ cG o o_text o_kind o_size o_readJar o_page o_trial o_book o_kept o_isKept o_tastedFrom o_tastedTo o_order o_spots o_gains o_value n_thrown v_textSize v_place v_jars v_readPlaces v_readJars v_acts v_tasted v_seed v_some v_rowMany v_rowWay v_stuffWhich v_stuffNear n_keptMany n_keptFirst v_restMany v_restFirst f_tastedFrom f_tastedTo) A) A) (([Value.ref o, Value.int a1] : List Value).toArray) s 0 0 A := ⟨_, rfl⟩
  have hl := lv_entry ([.ref o, .int a1]) (n := 5) (Nat.le_of_ble_eq_true rfl)
  rw [← hQ, lg_entry_eq]
  generalize (lg_sl ([.ref o, .int a1]) ++ List.replicate (5 - (lg_sl ([.ref o, .int a1])).length) Slot.unset).toArray = ls at hl ⊢
  have hl : lv_has ls 5 [(0, .ref o), (1, .int a1)] := hl
  generalize hH : s.heap = H at hP hS ⊢
  have hS : va_S A s.heap H [] := by rw [hH]; exact hS
  generalize hlc : ([] : List Loc) = locs at hS ⊢
  show W p l e rm_X8_kept s m (([Value.ref o, Value.int a1] : List Value).toArray) below meth c H locs 0 0 Q (F0 m 0 ls [])
  have L31 : ∀ (n31 : Nat), ∀ (x2 : Int32) (y_thrown : Int32) (y_keptMany : Int32) (y_keptFirst : Int32) (H : Heap) (locs : List Loc) (ls : Array Slot), x8_kept_b31 N v_tasted f_tastedFrom f_tastedTo a1 n31 x2 y_thrown y_keptMany y_keptFirst = some (r0, n_thrown, n_keptMany, n_keptFirst) → lv_has ls 5 [(0, .ref o), (1, .int a1), (2, .int x2)] → va_P (dC, dI) vwCl (w_X8_kept cI cZ cG o o_text o_kind o_size o_readJar o_page o_trial o_book o_kept o_isKept o_tastedFrom o_tastedTo o_order o_spots o_gains o_value y_thrown v_textSize v_place v_jars v_readPlaces v_readJars v_acts v_tasted v_seed v_some v_rowMany v_rowWay v_stuffWhich v_stuffNear y_keptMany y_keptFirst v_restMany v_restFirst f_tastedFrom f_tastedTo) H → va_D A (w_X8_kept cI cZ cG o o_text o_kind o_size o_readJar o_page o_trial o_book o_kept o_isKept o_tastedFrom o_tastedTo o_order o_spots o_gains o_value y_thrown v_textSize v_place v_jars v_readPlaces v_readJars v_acts v_tasted v_seed v_some v_rowMany v_rowWay v_stuffWhich v_stuffNear y_keptMany y_keptFirst v_restMany v_restFirst f_tastedFrom f_tastedTo) → va_S A s.heap H locs → W p l e rm_X8_kept s m (([Value.ref o, Value.int a1] : List Value).toArray) below meth c H locs 0 0 Q (F0 m 31 ls []) := by
    intro n31
    induction n31 with
    | zero =>
      intro x2 y_thrown y_keptMany y_keptFirst H locs ls hf hl hP hD hS
      exact g_no hf
    | succ n31 ih31 =>
      have J132 : ∀ (x2 : Int32) (t1 : Int32) (t2 : Int32) (y_thrown : Int32) (y_keptMany : Int32) (y_keptFirst : Int32) (H : Heap) (locs : List Loc) (ls : Array Slot), x8_kept_b132 N v_tasted f_tastedFrom f_tastedTo a1 (x8_kept_b31 N v_tasted f_tastedFrom f_tastedTo a1 n31) x2 t1 t2 y_thrown y_keptMany y_keptFirst = some (r0, n_thrown, n_keptMany, n_keptFirst) → lv_has ls 5 [(0, .ref o), (1, .int a1), (2, .int x2)] → va_P (dC, dI) vwCl (w_X8_kept cI cZ cG o o_text o_kind o_size o_readJar o_page o_trial o_book o_kept o_isKept o_tastedFrom o_tastedTo o_order o_spots o_gains o_value y_thrown v_textSize v_place v_jars v_readPlaces v_readJars v_acts v_tasted v_seed v_some v_rowMany v_rowWay v_stuffWhich v_stuffNear y_keptMany y_keptFirst v_restMany v_restFirst f_tastedFrom f_tastedTo) H → va_D A (w_X8_kept cI cZ cG o o_text o_kind o_size o_readJar o_page o_trial o_book o_kept o_isKept o_tastedFrom o_tastedTo o_order o_spots o_gains o_value y_thrown v_textSize v_place v_jars v_readPlaces v_readJars v_acts v_tasted v_seed v_some v_rowMany v_rowWay v_stuffWhich v_stuffNear y_keptMany y_keptFirst v_restMany v_restFirst f_tastedFrom f_tastedTo) → va_S A s.heap H locs → W p l e rm_X8_kept s m (([Value.ref o, Value.int a1] : List Value).toArray) below meth c H locs 0 0 Q (F0 m 132 ls [.int t2, .int t1, .ref o]) := by
        intro x2 t1 t2 y_thrown y_keptMany y_keptFirst H locs ls hf hl hP hD hS
        unfold x8_kept_b132 at hf
        refine lv_iadd hx hb dX8_kept_132 ?_
        refine va_put (D := (dC, dI)) (ci := 8) (v := .int (t1 + t2)) (ty := .int) (C := RX8) (T := TX8) (N := 33) hx hb hts hiX8 tyX8 tyX8_ok nmX8 hown hK hP hD hS 0 rfl rfl 27 (by decide) (hts (.fieldLink RX8 234 "GreenJarsModel" "keptMany" "I") (by decide +kernel)) (fun _ h9 => h9) rfl (by decide +kernel) rfl rfl (Nat.le_of_ble_eq_true rfl) dX8_kept_133 (fun H locs hP hD hS => ?_)
        have hP : va_P (dC, dI) vwCl (w_X8_kept cI cZ cG o o_text o_kind o_size o_readJar o_page o_trial o_book o_kept o_isKept o_tastedFrom o_tastedTo o_order o_spots o_gains o_value y_thrown v_textSize v_place v_jars v_readPlaces v_readJars v_acts v_tasted v_seed v_some v_rowMany v_rowWay v_stuffWhich v_stuffNear (t1 + t2) y_keptFirst v_restMany v_restFirst f_tastedFrom f_tastedTo) H := hP
        have hD : va_D A (w_X8_kept cI cZ cG o o_text o_kind o_size o_readJar o_page o_trial o_book o_kept o_isKept o_tastedFrom o_tastedTo o_order o_spots o_gains o_value y_thrown v_textSize v_place v_jars v_readPlaces v_readJars v_acts v_tasted v_seed v_some v_rowMany v_rowWay v_stuffWhich v_stuffNear (t1 + t2) y_keptFirst v_restMany v_restFirst f_tastedFrom f_tastedTo) := hD
        refine lv_iinc (v := (x2 + (1 : Int32))) (lv' := [(2, .int (x2 + (1 : Int32))), (0, .ref o), (1, .int a1)]) hx hb dX8_kept_136 hl (k := 2) rfl rfl (by decide) rfl (fun ls hl => ?_)
        refine lv_goto (tgt := 31) hx hb dX8_kept_139 (by decide) ?_
        exact ih31 (x2 + (1 : Int32)) y_thrown (t1 + t2) y_keptFirst H locs ls hf (lv_sub hl [1, 2, 0] rfl) hP hD hS
      have J115 : ∀ (x2 : Int32) (x3 : Int32) (t1 : Int32) (y_thrown : Int32) (y_keptMany : Int32) (y_keptFirst : Int32) (H : Heap) (locs : List Loc) (ls : Array Slot), x8_kept_b115 N v_tasted f_tastedFrom f_tastedTo a1 (x8_kept_b31 N v_tasted f_tastedFrom f_tastedTo a1 n31) x2 x3 t1 y_thrown y_keptMany y_keptFirst = some (r0, n_thrown, n_keptMany, n_keptFirst) → lv_has ls 5 [(0, .ref o), (1, .int a1), (2, .int x2), (3, .int x3)] → va_P (dC, dI) vwCl (w_X8_kept cI cZ cG o o_text o_kind o_size o_readJar o_page o_trial o_book o_kept o_isKept o_tastedFrom o_tastedTo o_order o_spots o_gains o_value y_thrown v_textSize v_place v_jars v_readPlaces v_readJars v_acts v_tasted v_seed v_some v_rowMany v_rowWay v_stuffWhich v_stuffNear y_keptMany y_keptFirst v_restMany v_restFirst f_tastedFrom f_tastedTo) H → va_D A (w_X8_kept cI cZ cG o o_text o_kind o_size o_readJar o_page o_trial o_book o_kept o_isKept o_tastedFrom o_tastedTo o_order o_spots o_gains o_value y_thrown v_textSize v_place v_jars v_readPlaces v_readJars v_acts v_tasted v_seed v_some v_rowMany v_rowWay v_stuffWhich v_stuffNear y_keptMany y_keptFirst v_restMany v_restFirst f_tastedFrom f_tastedTo) → va_S A s.heap H locs → W p l e rm_X8_kept s m (([Value.ref o, Value.int a1] : List Value).toArray) below meth c H locs 0 0 Q (F0 m 115 ls [.int t1, .ref o]) := by
        intro x2 x3 t1 y_thrown y_keptMany y_keptFirst H locs ls hf hl hP hD hS
        unfold x8_kept_b115 at hf
        refine va_put (D := (dC, dI)) (ci := 8) (v := .int t1) (ty := .int) (C := RX8) (T := TX8) (N := 33) hx hb hts hiX8 tyX8 tyX8_ok nmX8 hown hK hP hD hS 0 rfl rfl 28 (by decide) (hts (.fieldLink RX8 237 "GreenJarsModel" "keptFirst" "I") (by decide +kernel)) (fun _ h9 => h9) rfl (by decide +kernel) rfl rfl (Nat.le_of_ble_eq_true rfl) dX8_kept_115 (fun H locs hP hD hS => ?_)
        have hP : va_P (dC, dI) vwCl (w_X8_kept cI cZ cG o o_text o_kind o_size o_readJar o_page o_trial o_book o_kept o_isKept o_tastedFrom o_tastedTo o_order o_spots o_gains o_value y_thrown v_textSize v_place v_jars v_readPlaces v_readJars v_acts v_tasted v_seed v_some v_rowMany v_rowWay v_stuffWhich v_stuffNear y_keptMany t1 v_restMany v_restFirst f_tastedFrom f_tastedTo) H := hP
        have hD : va_D A (w_X8_kept cI cZ cG o o_text o_kind o_size o_readJar o_page o_trial o_book o_kept o_isKept o_tastedFrom o_tastedTo o_order o_spots o_gains o_value y_thrown v_textSize v_place v_jars v_readPlaces v_readJars v_acts v_tasted v_seed v_some v_rowMany v_rowWay v_stuffWhich v_stuffNear y_keptMany t1 v_restMany v_restFirst f_tastedFrom f_tastedTo) := hD
        refine lv_aload_n hx hb dX8_kept_118 rfl (lv_at hl 0 rfl) ?_
        refine lv_dup hx hb dX8_kept_119 rfl ?_
        refine va_get (D := (dC, dI)) (ci := 8) (v := .int y_keptMany) (C := RX8) (T := TX8) (N := 33) hx hb hts hiX8 hown hK hP 0 rfl rfl 27 (by decide) (hts (.fieldLink RX8 234 "GreenJarsModel" "keptMany" "I") (by decide +kernel)) (fun _ h9 => h9) rfl dX8_kept_120 ?_
        refine lv_iload_n hx hb dX8_kept_123 rfl (lv_at hl 3 rfl) ?_
        refine lv_if_eq (tgt := 131) hx hb dX8_kept_124 (by decide) (fun c1 => ?_) (fun c1 => ?_)
        · have hf := g_pos c1 hf
          refine lv_iconst (v := (0 : Int32)) hx hb dX8_kept_131 (by decide) ?_
          exact J132 x2 y_keptMany (0 : Int32) y_thrown y_keptMany t1 H locs ls hf (lv_sub hl [0, 1, 2] rfl) hP hD hS
        · have hf := g_neg c1 hf
          refine lv_iconst (v := (1 : Int32)) hx hb dX8_kept_127 (by decide) ?_
          refine lv_goto (tgt := 132) hx hb dX8_kept_128 (by decide) ?_
          exact J132 x2 y_keptMany (1 : Int32) y_thrown y_keptMany t1 H locs ls hf (lv_sub hl [0, 1, 2] rfl) hP hD hS
      have J111 : ∀ (x2 : Int32) (x3 : Int32) (y_thrown : Int32) (y_keptMany : Int32) (y_keptFirst : Int32) (H : Heap) (locs : List Loc) (ls : Array Slot), x8_kept_b111 N v_tasted f_tastedFrom f_tastedTo a1 (x8_kept_b31 N v_tasted f_tastedFrom f_tastedTo a1 n31) x2 x3 y_thrown y_keptMany y_keptFirst = some (r0, n_thrown, n_keptMany, n_keptFirst) → lv_has ls 5 [(0, .ref o), (1, .int a1), (2, .int x2), (3, .int x3)] → va_P (dC, dI) vwCl (w_X8_kept cI cZ cG o o_text o_kind o_size o_readJar o_page o_trial o_book o_kept o_isKept o_tastedFrom o_tastedTo o_order o_spots o_gains o_value y_thrown v_textSize v_place v_jars v_readPlaces v_readJars v_acts v_tasted v_seed v_some v_rowMany v_rowWay v_stuffWhich v_stuffNear y_keptMany y_keptFirst v_restMany v_restFirst f_tastedFrom f_tastedTo) H → va_D A (w_X8_kept cI cZ cG o o_text o_kind o_size o_readJar o_page o_trial o_book o_kept o_isKept o_tastedFrom o_tastedTo o_order o_spots o_gains o_value y_thrown v_textSize v_place v_jars v_readPlaces v_readJars v_acts v_tasted v_seed v_some v_rowMany v_rowWay v_stuffWhich v_stuffNear y_keptMany y_keptFirst v_restMany v_restFirst f_tastedFrom f_tastedTo) → va_S A s.heap H locs → W p l e rm_X8_kept s m (([Value.ref o, Value.int a1] : List Value).toArray) below meth c H locs 0 0 Q (F0 m 111 ls [.ref o]) := by
        intro x2 x3 y_thrown y_keptMany y_keptFirst H locs ls hf hl hP hD hS
        unfold x8_kept_b111 at hf
        refine lv_aload_n hx hb dX8_kept_111 rfl (lv_at hl 0 rfl) ?_
        refine va_get (D := (dC, dI)) (ci := 8) (v := .int y_keptFirst) (C := RX8) (T := TX8) (N := 33) hx hb hts hiX8 hown hK hP 0 rfl rfl 28 (by decide) (hts (.fieldLink RX8 237 "GreenJarsModel" "keptFirst" "I") (by decide +kernel)) (fun _ h9 => h9) rfl dX8_kept_112 ?_
        exact J115 x2 x3 y_keptFirst y_thrown y_keptMany y_keptFirst H locs ls hf (lv_sub hl [0, 1, 2, 3] rfl) hP hD hS
      have L42 : ∀ (n42 : Nat), ∀ (x2 : Int32) (x3 : Int32) (x4 : Int32) (y_thrown : Int32) (y_keptMany : Int32) (y_keptFirst : Int32) (H : Heap) (locs : List Loc) (ls : Array Slot), x8_kept_b42 N v_tasted f_tastedFrom f_tastedTo a1 (x8_kept_b31 N v_tasted f_tastedFrom f_tastedTo a1 n31) n42 x2 x3 x4 y_thrown y_keptMany y_keptFirst = some (r0, n_thrown, n_keptMany, n_keptFirst) → lv_has ls 5 [(0, .ref o), (1, .int a1), (2, .int x2), (3, .int x3), (4, .int x4)] → va_P (dC, dI) vwCl (w_X8_kept cI cZ cG o o_text o_kind o_size o_readJar o_page o_trial o_book o_kept o_isKept o_tastedFrom o_tastedTo o_order o_spots o_gains o_value y_thrown v_textSize v_place v_jars v_readPlaces v_readJars v_acts v_tasted v_seed v_some v_rowMany v_rowWay v_stuffWhich v_stuffNear y_keptMany y_keptFirst v_restMany v_restFirst f_tastedFrom f_tastedTo) H → va_D A (w_X8_kept cI cZ cG o o_text o_kind o_size o_readJar o_page o_trial o_book o_kept o_isKept o_tastedFrom o_tastedTo o_order o_spots o_gains o_value y_thrown v_textSize v_place v_jars v_readPlaces v_readJars v_acts v_tasted v_seed v_some v_rowMany v_rowWay v_stuffWhich v_stuffNear y_keptMany y_keptFirst v_restMany v_restFirst f_tastedFrom f_tastedTo) → va_S A s.heap H locs → W p l e rm_X8_kept s m (([Value.ref o, Value.int a1] : List Value).toArray) below meth c H locs 0 0 Q (F0 m 42 ls []) := by
        intro n42
        induction n42 with
        | zero =>
          intro x2 x3 x4 y_thrown y_keptMany y_keptFirst H locs ls hf hl hP hD hS
          exact g_no hf
        | succ n42 ih42 =>
          have J87 : ∀ (x2 : Int32) (x4 : Int32) (y_thrown : Int32) (y_keptMany : Int32) (y_keptFirst : Int32) (H : Heap) (locs : List Loc) (ls : Array Slot), x8_kept_b87 N v_tasted f_tastedFrom f_tastedTo a1 (x8_kept_b31 N v_tasted f_tastedFrom f_tastedTo a1 n31) (x8_kept_b42 N v_tasted f_tastedFrom f_tastedTo a1 (x8_kept_b31 N v_tasted f_tastedFrom f_tastedTo a1 n31) n42) x2 x4 y_thrown y_keptMany y_keptFirst = some (r0, n_thrown, n_keptMany, n_keptFirst) → lv_has ls 5 [(0, .ref o), (1, .int a1), (2, .int x2), (4, .int x4)] → va_P (dC, dI) vwCl (w_X8_kept cI cZ cG o o_text o_kind o_size o_readJar o_page o_trial o_book o_kept o_isKept o_tastedFrom o_tastedTo o_order o_spots o_gains o_value y_thrown v_textSize v_place v_jars v_readPlaces v_readJars v_acts v_tasted v_seed v_some v_rowMany v_rowWay v_stuffWhich v_stuffNear y_keptMany y_keptFirst v_restMany v_restFirst f_tastedFrom f_tastedTo) H → va_D A (w_X8_kept cI cZ cG o o_text o_kind o_size o_readJar o_page o_trial o_book o_kept o_isKept o_tastedFrom o_tastedTo o_order o_spots o_gains o_value y_thrown v_textSize v_place v_jars v_readPlaces v_readJars v_acts v_tasted v_seed v_some v_rowMany v_rowWay v_stuffWhich v_stuffNear y_keptMany y_keptFirst v_restMany v_restFirst f_tastedFrom f_tastedTo) → va_S A s.heap H locs → W p l e rm_X8_kept s m (([Value.ref o, Value.int a1] : List Value).toArray) below meth c H locs 0 0 Q (F0 m 87 ls []) := by
            intro x2 x4 y_thrown y_keptMany y_keptFirst H locs ls hf hl hP hD hS
            unfold x8_kept_b87 at hf
            refine lv_iconst (v := (0 : Int32)) hx hb dX8_kept_87 (by decide) ?_
            refine lv_istore_n (lv' := [(3, .int (0 : Int32)), (0, .ref o), (1, .int a1), (2, .int x2), (4, .int x4)]) hx hb dX8_kept_88 rfl hl (by decide) rfl (fun ls hl => ?_)
            refine lv_iinc (v := (x4 + (1 : Int32))) (lv' := [(4, .int (x4 + (1 : Int32))), (3, .int (0 : Int32)), (0, .ref o), (1, .int a1), (2, .int x2)]) hx hb dX8_kept_89 hl (k := 4) rfl rfl (by decide) rfl (fun ls hl => ?_)
            refine lv_goto (tgt := 42) hx hb dX8_kept_92 (by decide) ?_
            exact ih42 x2 (0 : Int32) (x4 + (1 : Int32)) y_thrown y_keptMany y_keptFirst H locs ls hf (lv_sub hl [2, 3, 4, 1, 0] rfl) hP hD hS
          intro x2 x3 x4 y_thrown y_keptMany y_keptFirst H locs ls hf hl hP hD hS
          unfold x8_kept_b42 at hf
          refine lv_iload hx hb dX8_kept_42 (lv_at hl 4 rfl) ?_
          refine lv_aload_n hx hb dX8_kept_44 rfl (lv_at hl 0 rfl) ?_
          refine va_get (D := (dC, dI)) (ci := 8) (v := .int v_tasted) (C := RX8) (T := TX8) (N := 33) hx hb hts hiX8 hown hK hP 0 rfl rfl 16 (by decide) (hts (.fieldLink RX8 135 "GreenJarsModel" "tasted" "I") (by decide +kernel)) (fun _ h9 => h9) rfl dX8_kept_45 ?_
          refine lv_icmp_ge (tgt := 95) hx hb dX8_kept_48 (by decide) (fun c2 => ?_) (fun c2 => ?_)
          · have hf := g_pos c2 hf
            refine lv_aload_n hx hb dX8_kept_95 rfl (lv_at hl 0 rfl) ?_
            refine lv_iload_n hx hb dX8_kept_96 rfl (lv_at hl 3 rfl) ?_
            refine lv_if_eq (tgt := 111) hx hb dX8_kept_97 (by decide) (fun c3 => ?_) (fun c3 => ?_)
            · have hf := g_pos c3 hf
              exact J111 x2 x3 y_thrown y_keptMany y_keptFirst H locs ls hf (lv_sub hl [0, 1, 2, 3] rfl) hP hD hS
            · have hf := g_neg c3 hf
              refine lv_aload_n hx hb dX8_kept_100 rfl (lv_at hl 0 rfl) ?_
              refine va_get (D := (dC, dI)) (ci := 8) (v := .int y_keptMany) (C := RX8) (T := TX8) (N := 33) hx hb hts hiX8 hown hK hP 0 rfl rfl 27 (by decide) (hts (.fieldLink RX8 234 "GreenJarsModel" "keptMany" "I") (by decide +kernel)) (fun _ h9 => h9) rfl dX8_kept_101 ?_
              refine lv_if_ne (tgt := 111) hx hb dX8_kept_104 (by decide) (fun c4 => ?_) (fun c4 => ?_)
              · have hf := g_neg c4 hf
                exact J111 x2 x3 y_thrown y_keptMany y_keptFirst H locs ls hf (lv_sub hl [0, 1, 2, 3] rfl) hP hD hS
              · have hf := g_pos c4 hf
                refine lv_iload_n hx hb dX8_kept_107 rfl (lv_at hl 2 rfl) ?_
                refine lv_goto (tgt := 115) hx hb dX8_kept_108 (by decide) ?_
                exact J115 x2 x3 x2 y_thrown y_keptMany y_keptFirst H locs ls hf (lv_sub hl [0, 1, 2, 3] rfl) hP hD hS
          · have hf := g_neg c2 hf
            refine lv_iload_n hx hb dX8_kept_51 rfl (lv_at hl 3 rfl) ?_
            refine lv_if_eq (tgt := 87) hx hb dX8_kept_52 (by decide) (fun c5 => ?_) (fun c5 => ?_)
            · have hf := g_pos c5 hf
              exact J87 x2 x4 y_thrown y_keptMany y_keptFirst H locs ls hf (lv_sub hl [0, 1, 2, 4] rfl) hP hD hS
            · have hf := g_neg c5 hf
              refine lv_aload_n hx hb dX8_kept_55 rfl (lv_at hl 0 rfl) ?_
              refine va_get (D := (dC, dI)) (ci := 8) (v := .ref o_tastedFrom) (C := RX8) (T := TX8) (N := 33) hx hb hts hiX8 hown hK hP 0 rfl rfl 17 (by decide) (hts (.fieldLink RX8 38 "GreenJarsModel" "tastedFrom" "[I") (by decide +kernel)) (fun _ h9 => h9) rfl dX8_kept_56 ?_
              refine lv_iload hx hb dX8_kept_59 (lv_at hl 4 rfl) ?_
              obtain ⟨h6, hf⟩ := g_chk hf
              refine va_iald hx hb hK hP 1 0 rfl rfl (gIn_vp h6) dX8_kept_61 ?_
              refine lv_iload_n hx hb dX8_kept_62 rfl (lv_at hl 2 rfl) ?_
              refine lv_bipush (v := (10 : Int32)) hx hb dX8_kept_63 (by decide +kernel) ?_
              refine lv_idiv hx hb dX8_kept_65 (by decide) ?_
              refine lv_iload_n hx hb dX8_kept_66 rfl (lv_at hl 2 rfl) ?_
              refine lv_bipush (v := (10 : Int32)) hx hb dX8_kept_67 (by decide +kernel) ?_
              refine lv_irem hx hb dX8_kept_69 (by decide) ?_
              obtain ⟨r7, hc8, hf⟩ := g_b1 hf
              refine g_rS (As := [.int (f_tastedFrom x4.toNatClampNeg), .int (x2 / (10 : Int32)), .int (x2 - x2 / (10 : Int32) * (10 : Int32))]) (rest := []) ⟨hx, hb, hml, hown, hts⟩ (c_X8_soakedFor l dC dI cI cZ cG    (f_tastedFrom x4.toNatClampNeg) (x2 / (10 : Int32)) (x2 - x2 / (10 : Int32) * (10 : Int32)) hc8) (va_cwS 3 hts gX8_kept_X8_soakedFor rfl rfl rfl (by decide +kernel) ⟨Nat.le_of_ble_eq_true rfl, Nat.le_of_ble_eq_true rfl⟩) hK hN (hP.sub [] rfl) rfl hl.1 rfl (Nat.le_of_ble_eq_true rfl) dX8_kept_70 ⟨Nat.zero_le _, Nat.zero_le _⟩ ?_
              refine lv_aload_n hx hb dX8_kept_73 rfl (lv_at hl 0 rfl) ?_
              refine va_get (D := (dC, dI)) (ci := 8) (v := .ref o_tastedTo) (C := RX8) (T := TX8) (N := 33) hx hb hts hiX8 hown hK hP 0 rfl rfl 18 (by decide) (hts (.fieldLink RX8 41 "GreenJarsModel" "tastedTo" "[I") (by decide +kernel)) (fun _ h9 => h9) rfl dX8_kept_74 ?_
              refine lv_iload hx hb dX8_kept_77 (lv_at hl 4 rfl) ?_
              obtain ⟨h9, hf⟩ := g_chk hf
              refine va_iald hx hb hK hP 2 0 rfl rfl (gIn_vp h9) dX8_kept_79 ?_
              refine lv_icmp_ne (tgt := 87) hx hb dX8_kept_80 (by decide) (fun c10 => ?_) (fun c10 => ?_)
              · have hf := g_neg c10 hf
                exact J87 x2 x4 y_thrown y_keptMany y_keptFirst H locs ls hf (lv_sub hl [0, 1, 2, 4] rfl) hP hD hS
              · have hf := g_pos c10 hf
                refine lv_iconst (v := (1 : Int32)) hx hb dX8_kept_83 (by decide) ?_
                refine lv_goto (tgt := 88) hx hb dX8_kept_84 (by decide) ?_
                refine lv_istore_n (lv' := [(3, .int (1 : Int32)), (0, .ref o), (1, .int a1), (2, .int x2), (4, .int x4)]) hx hb dX8_kept_88 rfl hl (by decide) rfl (fun ls hl => ?_)
                refine lv_iinc (v := (x4 + (1 : Int32))) (lv' := [(4, .int (x4 + (1 : Int32))), (3, .int (1 : Int32)), (0, .ref o), (1, .int a1), (2, .int x2)]) hx hb dX8_kept_89 hl (k := 4) rfl rfl (by decide) rfl (fun ls hl => ?_)
                refine lv_goto (tgt := 42) hx hb dX8_kept_92 (by decide) ?_
                exact ih42 x2 (1 : Int32) (x4 + (1 : Int32)) y_thrown y_keptMany y_keptFirst H locs ls hf (lv_sub hl [2, 3, 4, 1, 0] rfl) hP hD hS
      intro x2 y_thrown y_keptMany y_keptFirst H locs ls hf hl hP hD hS
      unfold x8_kept_b31 at hf
      refine lv_iload_n hx hb dX8_kept_31 rfl (lv_at hl 2 rfl) ?_
      refine lv_bipush (v := (40 : Int32)) hx hb dX8_kept_32 (by decide +kernel) ?_
      refine lv_icmp_ge (tgt := 142) hx hb dX8_kept_34 (by decide) (fun c11 => ?_) (fun c11 => ?_)
      · have hf := g_pos c11 hf
        refine lv_iload_n hx hb dX8_kept_142 rfl (lv_at hl 1 rfl) ?_
        refine lv_if_ne (tgt := 153) hx hb dX8_kept_143 (by decide) (fun c12 => ?_) (fun c12 => ?_)
        · have hf := g_neg c12 hf
          refine lv_aload_n hx hb dX8_kept_153 rfl (lv_at hl 0 rfl) ?_
          refine va_get (D := (dC, dI)) (ci := 8) (v := .int y_keptFirst) (C := RX8) (T := TX8) (N := 33) hx hb hts hiX8 hown hK hP 0 rfl rfl 28 (by decide) (hts (.fieldLink RX8 237 "GreenJarsModel" "keptFirst" "I") (by decide +kernel)) (fun _ h9 => h9) rfl dX8_kept_154 ?_
          rw [hQ]
          cases hf
          exact W.iret hx hb hr (fun t ht hW => ⟨⟨_, (), rfl, rfl, by rw [ht]; exact hP, va_K.moved hW.alike hK, hD⟩, hS.F ht⟩) hS.2.2 dX8_kept_157
        · have hf := g_pos c12 hf
          refine lv_aload_n hx hb dX8_kept_146 rfl (lv_at hl 0 rfl) ?_
          refine va_get (D := (dC, dI)) (ci := 8) (v := .int y_keptMany) (C := RX8) (T := TX8) (N := 33) hx hb hts hiX8 hown hK hP 0 rfl rfl 27 (by decide) (hts (.fieldLink RX8 234 "GreenJarsModel" "keptMany" "I") (by decide +kernel)) (fun _ h9 => h9) rfl dX8_kept_147 ?_
          refine lv_goto (tgt := 157) hx hb dX8_kept_150 (by decide) ?_
          rw [hQ]
          cases hf
          exact W.iret hx hb hr (fun t ht hW => ⟨⟨_, (), rfl, rfl, by rw [ht]; exact hP, va_K.moved hW.alike hK, hD⟩, hS.F ht⟩) hS.2.2 dX8_kept_157
      · have hf := g_neg c11 hf
        refine lv_iconst (v := (1 : Int32)) hx hb dX8_kept_37 (by decide) ?_
        refine lv_istore_n (lv' := [(3, .int (1 : Int32)), (0, .ref o), (1, .int a1), (2, .int x2)]) hx hb dX8_kept_38 rfl hl (by decide) rfl (fun ls hl => ?_)
        refine lv_iconst (v := (0 : Int32)) hx hb dX8_kept_39 (by decide) ?_
        refine lv_istore (lv' := [(4, .int (0 : Int32)), (3, .int (1 : Int32)), (0, .ref o), (1, .int a1), (2, .int x2)]) hx hb dX8_kept_40 hl (by decide) rfl (fun ls hl => ?_)
        exact L42 N x2 (1 : Int32) (0 : Int32) y_thrown y_keptMany y_keptFirst H locs ls hf (lv_sub hl [2, 3, 4, 1, 0] rfl) hP hD hS
  unfold x8_kept at hf
  refine lv_aload_n hx hb dX8_kept_0 rfl (lv_at hl 0 rfl) ?_
  refine lv_iconst (v := (0 : Int32)) hx hb dX8_kept_1 (by decide) ?_
  refine va_put (D := (dC, dI)) (ci := 8) (v := .int (0 : Int32)) (ty := .int) (C := RX8) (T := TX8) (N := 33) hx hb hts hiX8 tyX8 tyX8_ok nmX8 hown hK hP hD hS 0 rfl rfl 0 (by decide) (hts (.fieldLink RX8 56 "GreenJarsModel" "thrown" "I") (by decide +kernel)) (fun _ h9 => h9) rfl (by decide +kernel) rfl rfl (Nat.le_of_ble_eq_true rfl) dX8_kept_2 (fun H locs hP hD hS => ?_)
  have hP : va_P (dC, dI) vwCl (w_X8_kept cI cZ cG o o_text o_kind o_size o_readJar o_page o_trial o_book o_kept o_isKept o_tastedFrom o_tastedTo o_order o_spots o_gains o_value (0 : Int32) v_textSize v_place v_jars v_readPlaces v_readJars v_acts v_tasted v_seed v_some v_rowMany v_rowWay v_stuffWhich v_stuffNear v_keptMany v_keptFirst v_restMany v_restFirst f_tastedFrom f_tastedTo) H := hP
  have hD : va_D A (w_X8_kept cI cZ cG o o_text o_kind o_size o_readJar o_page o_trial o_book o_kept o_isKept o_tastedFrom o_tastedTo o_order o_spots o_gains o_value (0 : Int32) v_textSize v_place v_jars v_readPlaces v_readJars v_acts v_tasted v_seed v_some v_rowMany v_rowWay v_stuffWhich v_stuffNear v_keptMany v_keptFirst v_restMany v_restFirst f_tastedFrom f_tastedTo) := hD
  refine lv_iload_n hx hb dX8_kept_5 rfl (lv_at hl 1 rfl) ?_
  refine lv_i2l hx hb dX8_kept_6 rfl ?_
  refine lv_lconst (v := (0 : Int64)) hx hb dX8_kept_7 (by decide) ?_
  refine lv_lconst (v := (1 : Int64)) hx hb dX8_kept_8 (by decide) ?_
  obtain ⟨r13, hc14, hf⟩ := g_b1 hf
  refine g_rS (As := [.long a1.toInt64, .long (0 : Int64), .long (1 : Int64)]) (rest := []) ⟨hx, hb, hml, hown, hts⟩ (c_X8_in l dC dI cI cZ cG    a1.toInt64 (0 : Int64) (1 : Int64) hc14) (va_cwS 3 hts gX8_kept_X8_in rfl rfl rfl (by decide +kernel) ⟨Nat.le_of_ble_eq_true rfl, Nat.le_of_ble_eq_true rfl⟩) hK hN (hP.sub [] rfl) rfl hl.1 rfl (Nat.le_of_ble_eq_true rfl) dX8_kept_9 ⟨Nat.zero_le _, Nat.zero_le _⟩ ?_
  refine lv_if_ne (tgt := 18) hx hb dX8_kept_12 (by decide) (fun c15 => ?_) (fun c15 => ?_)
  · have hf := g_neg c15 hf
    refine lv_aload_n hx hb dX8_kept_18 rfl (lv_at hl 0 rfl) ?_
    refine lv_iconst (v := (0 : Int32)) hx hb dX8_kept_19 (by decide) ?_
    refine va_put (D := (dC, dI)) (ci := 8) (v := .int (0 : Int32)) (ty := .int) (C := RX8) (T := TX8) (N := 33) hx hb hts hiX8 tyX8 tyX8_ok nmX8 hown hK hP hD hS 0 rfl rfl 27 (by decide) (hts (.fieldLink RX8 234 "GreenJarsModel" "keptMany" "I") (by decide +kernel)) (fun _ h9 => h9) rfl (by decide +kernel) rfl rfl (Nat.le_of_ble_eq_true rfl) dX8_kept_20 (fun H locs hP hD hS => ?_)
    have hP : va_P (dC, dI) vwCl (w_X8_kept cI cZ cG o o_text o_kind o_size o_readJar o_page o_trial o_book o_kept o_isKept o_tastedFrom o_tastedTo o_order o_spots o_gains o_value (0 : Int32) v_textSize v_place v_jars v_readPlaces v_readJars v_acts v_tasted v_seed v_some v_rowMany v_rowWay v_stuffWhich v_stuffNear (0 : Int32) v_keptFirst v_restMany v_restFirst f_tastedFrom f_tastedTo) H := hP
    have hD : va_D A (w_X8_kept cI cZ cG o o_text o_kind o_size o_readJar o_page o_trial o_book o_kept o_isKept o_tastedFrom o_tastedTo o_order o_spots o_gains o_value (0 : Int32) v_textSize v_place v_jars v_readPlaces v_readJars v_acts v_tasted v_seed v_some v_rowMany v_rowWay v_stuffWhich v_stuffNear (0 : Int32) v_keptFirst v_restMany v_restFirst f_tastedFrom f_tastedTo) := hD
    refine lv_aload_n hx hb dX8_kept_23 rfl (lv_at hl 0 rfl) ?_
    refine lv_bipush (v := (-9 : Int32)) hx hb dX8_kept_24 (by decide +kernel) ?_
    refine va_put (D := (dC, dI)) (ci := 8) (v := .int (-9 : Int32)) (ty := .int) (C := RX8) (T := TX8) (N := 33) hx hb hts hiX8 tyX8 tyX8_ok nmX8 hown hK hP hD hS 0 rfl rfl 28 (by decide) (hts (.fieldLink RX8 237 "GreenJarsModel" "keptFirst" "I") (by decide +kernel)) (fun _ h9 => h9) rfl (by decide +kernel) rfl rfl (Nat.le_of_ble_eq_true rfl) dX8_kept_26 (fun H locs hP hD hS => ?_)
    have hP : va_P (dC, dI) vwCl (w_X8_kept cI cZ cG o o_text o_kind o_size o_readJar o_page o_trial o_book o_kept o_isKept o_tastedFrom o_tastedTo o_order o_spots o_gains o_value (0 : Int32) v_textSize v_place v_jars v_readPlaces v_readJars v_acts v_tasted v_seed v_some v_rowMany v_rowWay v_stuffWhich v_stuffNear (0 : Int32) (-9 : Int32) v_restMany v_restFirst f_tastedFrom f_tastedTo) H := hP
    have hD : va_D A (w_X8_kept cI cZ cG o o_text o_kind o_size o_readJar o_page o_trial o_book o_kept o_isKept o_tastedFrom o_tastedTo o_order o_spots o_gains o_value (0 : Int32) v_textSize v_place v_jars v_readPlaces v_readJars v_acts v_tasted v_seed v_some v_rowMany v_rowWay v_stuffWhich v_stuffNear (0 : Int32) (-9 : Int32) v_restMany v_restFirst f_tastedFrom f_tastedTo) := hD
    refine lv_iconst (v := (0 : Int32)) hx hb dX8_kept_29 (by decide) ?_
    refine lv_istore_n (lv' := [(2, .int (0 : Int32)), (0, .ref o), (1, .int a1)]) hx hb dX8_kept_30 rfl hl (by decide) rfl (fun ls hl => ?_)
    exact L31 N (0 : Int32) (0 : Int32) (0 : Int32) (-9 : Int32) H locs ls hf (lv_sub hl [1, 2, 0] rfl) hP hD hS
  · have hf := g_pos c15 hf
    refine lv_bipush (v := (-2 : Int32)) hx hb dX8_kept_15 (by decide +kernel) ?_
    rw [hQ]
    cases hf
    exact W.iret hx hb hr (fun t ht hW => ⟨⟨_, (), rfl, rfl, by rw [ht]; exact hP, va_K.moved hW.alike hK, hD⟩, hS.F ht⟩) hS.2.2 dX8_kept_17
abbrev rm_X8_gain : Room := { frames := 0, cells := 0, slots := 0, locals := 0 }
abbrev w_X8_gain (cI cZ cG : ClassId) : va_W := []
set_option maxHeartbeats 4000000 in
set_option maxRecDepth 100000 in
theorem c_X8_gain (l : Launch) (dC : Nat → ClassId) (dI : Nat → Nat → Nat) (cI cZ cG : ClassId) (a0 : Int32) (a1 : Int32) (a2 : Int32) {r0 : Int32} (hf : x8_gain a0 a1 a2 = some r0) : Met l yX8_gain wsX8_gain rm_X8_gain (va_Pc [.int a0, .int a1, .int a2] (gR (dC, dI) vwCl (gT cI cZ cG) (w_X8_gain cI cZ cG))) (vp_Si (fun r => r = r0)) 0 0 (fun _ => False) := by
  refine Met.ofW (cc := cX8_gain) (maxL := 3) (ret := (some .int)) (by decide) rfl ?_
  intro p e s m args below meth c s₁ B hml hv
  obtain ⟨rfl, hv⟩ := hv
  obtain ⟨hP, hK, hN⟩ := hv
  have hx := B.exec
  have hb := B.bytes
  have hr := B.returns
  have hts := atoms_spec (ws := wsX8_gain) B.pre
  have hown : s.vm.findClass RX8 = some m.cls := findClass_of_methodNamed B.named
  have hlocks := B.notSynchronized
  obtain ⟨Q, hQ⟩ : ∃ Q : State → Prop, Q = MQ below (vp_Si (fun r => r = r0)) (([Value.int a0, Value.int a1, Value.int a2] : List Value).toArray) s 0 0 (fun _ => False) := ⟨_, rfl⟩
  have hl := lv_entry ([.int a0, .int a1, .int a2]) (n := 3) (Nat.le_of_ble_eq_true rfl)
  rw [← hQ, lg_entry_eq]
  generalize (lg_sl ([.int a0, .int a1, .int a2]) ++ List.replicate (3 - (lg_sl ([.int a0, .int a1, .int a2])).length) Slot.unset).toArray = ls at hl ⊢
  have hl : lv_has ls 3 [(0, .int a0), (1, .int a1), (2, .int a2)] := hl
  show W p l e rm_X8_gain s m (([Value.int a0, Value.int a1, Value.int a2] : List Value).toArray) below meth c s.heap [] 0 0 Q (F0 m 0 ls [])
  have J29 : ∀ (t0 : Int32) (t1 : Int32) (ls : Array Slot), x8_gain_b29 a0 a1 a2 t0 t1 = some r0 → lv_has ls 3 [] → W p l e rm_X8_gain s m (([Value.int a0, Value.int a1, Value.int a2] : List Value).toArray) below meth c s.heap [] 0 0 Q (F0 m 29 ls [.int t1, .int t0]) := by
    intro t0 t1 ls hf hl
    unfold x8_gain_b29 at hf
    refine lv_iadd hx hb dX8_gain_29 ?_
    rw [hQ]
    exact W.iret (v := (t0 + t1)) hx hb hr (fun t ht hW => ⟨_, rfl, Option.some.inj hf, ht⟩) (fun q h => by cases h) dX8_gain_30
  have J18 : ∀ (t0 : Int32) (t1 : Int32) (ls : Array Slot), x8_gain_b18 a0 a1 a2 t0 t1 = some r0 → lv_has ls 3 [(2, .int a2)] → W p l e rm_X8_gain s m (([Value.int a0, Value.int a1, Value.int a2] : List Value).toArray) below meth c s.heap [] 0 0 Q (F0 m 18 ls [.int t1, .int t0]) := by
    intro t0 t1 ls hf hl
    unfold x8_gain_b18 at hf
    refine lv_iadd hx hb dX8_gain_18 ?_
    refine lv_iload_n hx hb dX8_gain_19 rfl (lv_at hl 0 rfl) ?_
    refine lv_iconst (v := (1 : Int32)) hx hb dX8_gain_20 (by decide) ?_
    refine lv_icmp_ne (tgt := 28) hx hb dX8_gain_21 (by decide) (fun c1 => ?_) (fun c1 => ?_)
    · have hf := g_neg c1 hf
      refine lv_iconst (v := (0 : Int32)) hx hb dX8_gain_28 (by decide) ?_
      exact J29 (t0 + t1) (0 : Int32) ls hf (lv_sub hl [] rfl)
    · have hf := g_pos c1 hf
      refine lv_iconst (v := (1 : Int32)) hx hb dX8_gain_24 (by decide) ?_
      refine lv_goto (tgt := 29) hx hb dX8_gain_25 (by decide) ?_
      exact J29 (t0 + t1) (1 : Int32) ls hf (lv_sub hl [] rfl)
  have J9 : ∀ (t0 : Int32) (ls : Array Slot), x8_gain_b9 a0 a1 a2 t0 = some r0 → lv_has ls 3 [(1, .int a1), (2, .int a2)] → W p l e rm_X8_gain s m (([Value.int a0, Value.int a1, Value.int a2] : List Value).toArray) below meth c s.heap [] 0 0 Q (F0 m 9 ls [.int t0]) := by
    intro t0 ls hf hl
    unfold x8_gain_b9 at hf
    refine lv_iload_n hx hb dX8_gain_9 rfl (lv_at hl 0 rfl) ?_
    refine lv_if_eq (tgt := 17) hx hb dX8_gain_10 (by decide) (fun c2 => ?_) (fun c2 => ?_)
    · have hf := g_pos c2 hf
      refine lv_iconst (v := (1 : Int32)) hx hb dX8_gain_17 (by decide) ?_
      exact J18 t0 (1 : Int32) ls hf (lv_sub hl [1] rfl)
    · have hf := g_neg c2 hf
      refine lv_iconst (v := (0 : Int32)) hx hb dX8_gain_13 (by decide) ?_
      refine lv_goto (tgt := 18) hx hb dX8_gain_14 (by decide) ?_
      exact J18 t0 (0 : Int32) ls hf (lv_sub hl [1] rfl)
  unfold x8_gain at hf
  refine lv_iload_n hx hb dX8_gain_0 rfl (lv_at hl 0 rfl) ?_
  refine lv_if_eq (tgt := 8) hx hb dX8_gain_1 (by decide) (fun c3 => ?_) (fun c3 => ?_)
  · have hf := g_pos c3 hf
    refine lv_iconst (v := (0 : Int32)) hx hb dX8_gain_8 (by decide) ?_
    exact J9 (0 : Int32) ls hf (lv_sub hl [1, 2] rfl)
  · have hf := g_neg c3 hf
    refine lv_iconst (v := (3 : Int32)) hx hb dX8_gain_4 (by decide) ?_
    refine lv_goto (tgt := 9) hx hb dX8_gain_5 (by decide) ?_
    exact J9 (3 : Int32) ls hf (lv_sub hl [1, 2] rfl)
abbrev rm_X8_rests : Room := { frames := 4, cells := 0, slots := 0, locals := 94 }
abbrev w_X8_rests (cI cZ cG : ClassId) (o : Nat) (o_text : Nat) (o_kind : Nat) (o_size : Nat) (o_readJar : Nat) (o_page : Nat) (o_trial : Nat) (o_book : Nat) (o_kept : Nat) (o_isKept : Nat) (o_tastedFrom : Nat) (o_tastedTo : Nat) (o_order : Nat) (o_spots : Nat) (o_gains : Nat) (o_value : Nat) (v_thrown : Int32) (v_textSize : Int32) (v_place : Int32) (v_jars : Int32) (v_readPlaces : Int32) (v_readJars : Int32) (v_acts : Int32) (v_tasted : Int32) (v_seed : Int64) (v_some : Int32) (v_rowMany : Int32) (v_rowWay : Int32) (v_stuffWhich : Int32) (v_stuffNear : Int32) (v_keptMany : Int32) (v_keptFirst : Int32) (v_restMany : Int32) (v_restFirst : Int32) (f_kind : Nat → Int32) (f_page : Nat → Int32) (f_trial : Nat → Int32) (f_gains : Nat → Int32) : va_W := [(o, .inr (8, [.int v_thrown, .ref o_text, .int v_textSize, .int v_place, .int v_jars, .ref o_kind, .ref o_size, .int v_readPlaces, .int v_readJars, .ref o_readJar, .ref o_page, .ref o_trial, .ref o_book, .int v_acts, .ref o_kept, .ref o_isKept, .int v_tasted, .ref o_tastedFrom, .ref o_tastedTo, .long v_seed, .int v_some, .ref o_order, .ref o_spots, .int v_rowMany, .int v_rowWay, .int v_stuffWhich, .int v_stuffNear, .int v_keptMany, .int v_keptFirst, .int v_restMany, .int v_restFirst, .ref o_gains, .ref o_value])), (o_kind, .inl (cI, 6, .inl f_kind)), (o_page, .inl (cI, 37, .inl f_page)), (o_trial, .inl (cI, 37, .inl f_trial)), (o_gains, .inl (cI, 32, .inl f_gains))]
set_option maxHeartbeats 4000000 in
set_option maxRecDepth 100000 in
theorem c_X8_rests (l : Launch) (dC : Nat → ClassId) (dI : Nat → Nat → Nat) (cI cZ cG : ClassId) {N : Nat} (o : Nat) (o_text : Nat) (o_kind : Nat) (o_size : Nat) (o_readJar : Nat) (o_page : Nat) (o_trial : Nat) (o_book : Nat) (o_kept : Nat) (o_isKept : Nat) (o_tastedFrom : Nat) (o_tastedTo : Nat) (o_order : Nat) (o_spots : Nat) (o_gains : Nat) (o_value : Nat) (sz : Nat) (v_thrown : Int32) (v_textSize : Int32) (v_place : Int32) (v_jars : Int32) (v_readPlaces : Int32) (v_readJars : Int32) (v_acts : Int32) (v_tasted : Int32) (v_seed : Int64) (v_some : Int32) (v_rowMany : Int32) (v_rowWay : Int32) (v_stuffWhich : Int32) (v_stuffNear : Int32) (v_keptMany : Int32) (v_keptFirst : Int32) (v_restMany : Int32) (v_restFirst : Int32) (f_kind : Nat → Int32) (f_page : Nat → Int32) (f_trial : Nat → Int32) (f_gains : Nat → Int32) (a1 : Int32) (a2 : Int32) (a3 : Int32) {r0 : Int32} {n_thrown : Int32} {n_some : Int32} {n_restMany : Int32} {n_restFirst : Int32} {n_trial : Nat → Int32} {n_gains : Nat → Int32} (hf : x8_rests N v_thrown v_jars v_some v_restMany v_restFirst f_kind f_page f_trial f_gains a1 a2 a3 = some (r0, n_thrown, n_some, n_restMany, n_restFirst, n_trial, n_gains)) : Met l yX8_rests wsX8_rests rm_X8_rests (va_Pc [.ref o, .int a1, .int a2, .int a3] (gW (dC, dI) vwCl (gT cI cZ cG) (w_X8_rests cI cZ cG o o_text o_kind o_size o_readJar o_page o_trial o_book o_kept o_isKept o_tastedFrom o_tastedTo o_order o_spots o_gains o_value v_thrown v_textSize v_place v_jars v_readPlaces v_readJars v_acts v_tasted v_seed v_some v_rowMany v_rowWay v_stuffWhich v_stuffNear v_keptMany v_keptFirst v_restMany v_restFirst f_kind f_page f_trial f_gains) sz)) (va_Qi (fun r _ => r = r0) (gE (dC, dI) vwCl (gT cI cZ cG) (w_X8_rests cI cZ cG o o_text o_kind o_size o_readJar o_page o_trial o_book o_kept o_isKept o_tastedFrom o_tastedTo o_order o_spots o_gains o_value n_thrown v_textSize v_place v_jars v_readPlaces v_readJars v_acts v_tasted v_seed n_some v_rowMany v_rowWay v_stuffWhich v_stuffNear v_keptMany v_keptFirst n_restMany n_restFirst f_kind f_page n_trial n_gains) (va_A (w_X8_rests cI cZ cG o o_text o_kind o_size o_readJar o_page o_trial o_book o_kept o_isKept o_tastedFrom o_tastedTo o_order o_spots o_gains o_value v_thrown v_textSize v_place v_jars v_readPlaces v_readJars v_acts v_tasted v_seed v_some v_rowMany v_rowWay v_stuffWhich v_stuffNear v_keptMany v_keptFirst v_restMany v_restFirst f_kind f_page f_trial f_gains) sz)) (va_A (w_X8_rests cI cZ cG o o_text o_kind o_size o_readJar o_page o_trial o_book o_kept o_isKept o_tastedFrom o_tastedTo o_order o_spots o_gains o_value v_thrown v_textSize v_place v_jars v_readPlaces v_readJars v_acts v_tasted v_seed v_some v_rowMany v_rowWay v_stuffWhich v_stuffNear v_keptMany v_keptFirst v_restMany v_restFirst f_kind f_page f_trial f_gains) sz)) 0 0 (va_A (w_X8_rests cI cZ cG o o_text o_kind o_size o_readJar o_page o_trial o_book o_kept o_isKept o_tastedFrom o_tastedTo o_order o_spots o_gains o_value v_thrown v_textSize v_place v_jars v_readPlaces v_readJars v_acts v_tasted v_seed v_some v_rowMany v_rowWay v_stuffWhich v_stuffNear v_keptMany v_keptFirst v_restMany v_restFirst f_kind f_page f_trial f_gains) sz) := by
  refine Met.ofW (cc := cX8_rests) (maxL := 7) (ret := (some .int)) (by decide) rfl ?_
  intro p e s m args below meth c s₁ B hml hv
  obtain ⟨rfl, hv⟩ := hv
  obtain ⟨hsz, hP, hK, hN, hD0⟩ := hv
  have hx := B.exec
  have hb := B.bytes
  have hr := B.returns
  have hts := atoms_spec (ws := wsX8_rests) B.pre
  have hown : s.vm.findClass RX8 = some m.cls := findClass_of_methodNamed B.named
  have hlocks := B.notSynchronized
  have hiX8 : ∀ w ∈ u_ws RX8 TX8 33, w ∈ wsX8_rests := fun w h => List.mem_cons_of_mem _ (List.mem_append_right _ h)
  subst hsz
  have hD := hD0.self (sz := s.heap.size)
  generalize hAe : va_A (w_X8_rests cI cZ cG o o_text o_kind o_size o_readJar o_page o_trial o_book o_kept o_isKept o_tastedFrom o_tastedTo o_order o_spots o_gains o_value v_thrown v_textSize v_place v_jars v_readPlaces v_readJars v_acts v_tasted v_seed v_some v_rowMany v_rowWay v_stuffWhich v_stuffNear v_keptMany v_keptFirst v_restMany v_restFirst f_kind f_page f_trial f_gains) s.heap.size = A at hD ⊢
  have hA : ∀ q : Nat, s.heap.size ≤ q → A q := fun q h => by rw [← hAe]; exact Or.inr h
  clear hD0
  have hS : va_S A s.heap s.heap [] := va_S.rf
  have hP : va_P (dC, dI) vwCl (w_X8_rests cI cZ cG o o_text o_kind o_size o_readJar o_page o_trial o_book o_kept o_isKept o_tastedFrom o_tastedTo o_order o_spots o_gains o_value v_thrown v_textSize v_place v_jars v_readPlaces v_readJars v_acts v_tasted v_seed v_some v_rowMany v_rowWay v_stuffWhich v_stuffNear v_keptMany v_keptFirst v_restMany v_restFirst f_kind f_page f_trial f_gains) s.heap := hP
  obtain ⟨Q, hQ⟩ : ∃ Q : State → Prop, Q = MQ below (va_Qi (fun r _ => r = r0) (gE (dC, dI) vwCl (gT cI cZ cG) (w_X8_rests cI cZ cG o o_text o_kind o_size o_readJar o_page o_trial o_book o_kept o_isKept o_tastedFrom o_tastedTo o_order o_spots o_gains o_value n_thrown v_textSize v_place v_jars v_readPlaces v_readJars v_acts v_tasted v_seed n_some v_rowMany v_rowWay v_stuffWhich v_stuffNear v_keptMany v_keptFirst n_restMany n_restFirst f_kind f_page n_trial n_gains) A) A) (([Value.ref o, Value.int a1, Value.int a2, Value.int a3] : List Value).toArray) s 0 0 A := ⟨_, rfl⟩
  have hl := lv_entry ([.ref o, .int a1, .int a2, .int a3]) (n := 7) (Nat.le_of_ble_eq_true rfl)
  rw [← hQ, lg_entry_eq]
  generalize (lg_sl ([.ref o, .int a1, .int a2, .int a3]) ++ List.replicate (7 - (lg_sl ([.ref o, .int a1, .int a2, .int a3])).length) Slot.unset).toArray = ls at hl ⊢
  have hl : lv_has ls 7 [(0, .ref o), (1, .int a1), (2, .int a2), (3, .int a3)] := hl
  generalize hH : s.heap = H at hP hS ⊢
  have hS : va_S A s.heap H [] := by rw [hH]; exact hS
  generalize hlc : ([] : List Loc) = locs at hS ⊢
  show W p l e rm_X8_rests s m (([Value.ref o, Value.int a1, Value.int a2, Value.int a3] : List Value).toArray) below meth c H locs 0 0 Q (F0 m 0 ls [])
  have L208 : ∀ (n208 : Nat), ∀ (x4 : Int32) (y_thrown : Int32) (y_some : Int32) (y_restMany : Int32) (y_restFirst : Int32) (y_trial : Nat → Int32) (y_gains : Nat → Int32) (H : Heap) (locs : List Loc) (ls : Array Slot), x8_rests_b208 N v_jars f_kind f_page a1 a2 a3 n208 x4 y_thrown y_some y_restMany y_restFirst y_trial y_gains = some (r0, n_thrown, n_some, n_restMany, n_restFirst, n_trial, n_gains) → lv_has ls 7 [(0, .ref o), (3, .int a3), (4, .int x4)] → va_P (dC, dI) vwCl (w_X8_rests cI cZ cG o o_text o_kind o_size o_readJar o_page o_trial o_book o_kept o_isKept o_tastedFrom o_tastedTo o_order o_spots o_gains o_value y_thrown v_textSize v_place v_jars v_readPlaces v_readJars v_acts v_tasted v_seed y_some v_rowMany v_rowWay v_stuffWhich v_stuffNear v_keptMany v_keptFirst y_restMany y_restFirst f_kind f_page y_trial y_gains) H → va_D A (w_X8_rests cI cZ cG o o_text o_kind o_size o_readJar o_page o_trial o_book o_kept o_isKept o_tastedFrom o_tastedTo o_order o_spots o_gains o_value y_thrown v_textSize v_place v_jars v_readPlaces v_readJars v_acts v_tasted v_seed y_some v_rowMany v_rowWay v_stuffWhich v_stuffNear v_keptMany v_keptFirst y_restMany y_restFirst f_kind f_page y_trial y_gains) → va_S A s.heap H locs → W p l e rm_X8_rests s m (([Value.ref o, Value.int a1, Value.int a2, Value.int a3] : List Value).toArray) below meth c H locs 0 0 Q (F0 m 208 ls []) := by
    intro n208
    induction n208 with
    | zero =>
      intro x4 y_thrown y_some y_restMany y_restFirst y_trial y_gains H locs ls hf hl hP hD hS
      exact g_no hf
    | succ n208 ih208 =>
      have J356 : ∀ (x4 : Int32) (t1 : Int32) (t2 : Int32) (y_thrown : Int32) (y_some : Int32) (y_restMany : Int32) (y_restFirst : Int32) (y_trial : Nat → Int32) (y_gains : Nat → Int32) (H : Heap) (locs : List Loc) (ls : Array Slot), x8_rests_b356 N v_jars f_kind f_page a1 a2 a3 (x8_rests_b208 N v_jars f_kind f_page a1 a2 a3 n208) x4 t1 t2 y_thrown y_some y_restMany y_restFirst y_trial y_gains = some (r0, n_thrown, n_some, n_restMany, n_restFirst, n_trial, n_gains) → lv_has ls 7 [(0, .ref o), (3, .int a3), (4, .int x4)] → va_P (dC, dI) vwCl (w_X8_rests cI cZ cG o o_text o_kind o_size o_readJar o_page o_trial o_book o_kept o_isKept o_tastedFrom o_tastedTo o_order o_spots o_gains o_value y_thrown v_textSize v_place v_jars v_readPlaces v_readJars v_acts v_tasted v_seed y_some v_rowMany v_rowWay v_stuffWhich v_stuffNear v_keptMany v_keptFirst y_restMany y_restFirst f_kind f_page y_trial y_gains) H → va_D A (w_X8_rests cI cZ cG o o_text o_kind o_size o_readJar o_page o_trial o_book o_kept o_isKept o_tastedFrom o_tastedTo o_order o_spots o_gains o_value y_thrown v_textSize v_place v_jars v_readPlaces v_readJars v_acts v_tasted v_seed y_some v_rowMany v_rowWay v_stuffWhich v_stuffNear v_keptMany v_keptFirst y_restMany y_restFirst f_kind f_page y_trial y_gains) → va_S A s.heap H locs → W p l e rm_X8_rests s m (([Value.ref o, Value.int a1, Value.int a2, Value.int a3] : List Value).toArray) below meth c H locs 0 0 Q (F0 m 356 ls [.int t2, .int t1, .ref o]) := by
        intro x4 t1 t2 y_thrown y_some y_restMany y_restFirst y_trial y_gains H locs ls hf hl hP hD hS
        unfold x8_rests_b356 at hf
        refine lv_iadd hx hb dX8_rests_356 ?_
        refine va_put (D := (dC, dI)) (ci := 8) (v := .int (t1 + t2)) (ty := .int) (C := RX8) (T := TX8) (N := 33) hx hb hts hiX8 tyX8 tyX8_ok nmX8 hown hK hP hD hS 0 rfl rfl 29 (by decide) (hts (.fieldLink RX8 248 "GreenJarsModel" "restMany" "I") (by decide +kernel)) (fun _ h9 => h9) rfl (by decide +kernel) rfl rfl (Nat.le_of_ble_eq_true rfl) dX8_rests_357 (fun H locs hP hD hS => ?_)
        have hP : va_P (dC, dI) vwCl (w_X8_rests cI cZ cG o o_text o_kind o_size o_readJar o_page o_trial o_book o_kept o_isKept o_tastedFrom o_tastedTo o_order o_spots o_gains o_value y_thrown v_textSize v_place v_jars v_readPlaces v_readJars v_acts v_tasted v_seed y_some v_rowMany v_rowWay v_stuffWhich v_stuffNear v_keptMany v_keptFirst (t1 + t2) y_restFirst f_kind f_page y_trial y_gains) H := hP
        have hD : va_D A (w_X8_rests cI cZ cG o o_text o_kind o_size o_readJar o_page o_trial o_book o_kept o_isKept o_tastedFrom o_tastedTo o_order o_spots o_gains o_value y_thrown v_textSize v_place v_jars v_readPlaces v_readJars v_acts v_tasted v_seed y_some v_rowMany v_rowWay v_stuffWhich v_stuffNear v_keptMany v_keptFirst (t1 + t2) y_restFirst f_kind f_page y_trial y_gains) := hD
        refine lv_iinc (v := (x4 + (1 : Int32))) (lv' := [(4, .int (x4 + (1 : Int32))), (0, .ref o), (3, .int a3)]) hx hb dX8_rests_360 hl (k := 2) rfl rfl (by decide) rfl (fun ls hl => ?_)
        refine lv_goto (tgt := 208) hx hb dX8_rests_363 (by decide) ?_
        exact ih208 (x4 + (1 : Int32)) y_thrown y_some (t1 + t2) y_restFirst y_trial y_gains H locs ls hf (lv_sub hl [1, 2, 0] rfl) hP hD hS
      have J338 : ∀ (x4 : Int32) (x5 : Int32) (t1 : Int32) (y_thrown : Int32) (y_some : Int32) (y_restMany : Int32) (y_restFirst : Int32) (y_trial : Nat → Int32) (y_gains : Nat → Int32) (H : Heap) (locs : List Loc) (ls : Array Slot), x8_rests_b338 N v_jars f_kind f_page a1 a2 a3 (x8_rests_b208 N v_jars f_kind f_page a1 a2 a3 n208) x4 x5 t1 y_thrown y_some y_restMany y_restFirst y_trial y_gains = some (r0, n_thrown, n_some, n_restMany, n_restFirst, n_trial, n_gains) → lv_has ls 7 [(0, .ref o), (3, .int a3), (4, .int x4), (5, .int x5)] → va_P (dC, dI) vwCl (w_X8_rests cI cZ cG o o_text o_kind o_size o_readJar o_page o_trial o_book o_kept o_isKept o_tastedFrom o_tastedTo o_order o_spots o_gains o_value y_thrown v_textSize v_place v_jars v_readPlaces v_readJars v_acts v_tasted v_seed y_some v_rowMany v_rowWay v_stuffWhich v_stuffNear v_keptMany v_keptFirst y_restMany y_restFirst f_kind f_page y_trial y_gains) H → va_D A (w_X8_rests cI cZ cG o o_text o_kind o_size o_readJar o_page o_trial o_book o_kept o_isKept o_tastedFrom o_tastedTo o_order o_spots o_gains o_value y_thrown v_textSize v_place v_jars v_readPlaces v_readJars v_acts v_tasted v_seed y_some v_rowMany v_rowWay v_stuffWhich v_stuffNear v_keptMany v_keptFirst y_restMany y_restFirst f_kind f_page y_trial y_gains) → va_S A s.heap H locs → W p l e rm_X8_rests s m (([Value.ref o, Value.int a1, Value.int a2, Value.int a3] : List Value).toArray) below meth c H locs 0 0 Q (F0 m 338 ls [.int t1, .ref o]) := by
        intro x4 x5 t1 y_thrown y_some y_restMany y_restFirst y_trial y_gains H locs ls hf hl hP hD hS
        unfold x8_rests_b338 at hf
        refine va_put (D := (dC, dI)) (ci := 8) (v := .int t1) (ty := .int) (C := RX8) (T := TX8) (N := 33) hx hb hts hiX8 tyX8 tyX8_ok nmX8 hown hK hP hD hS 0 rfl rfl 30 (by decide) (hts (.fieldLink RX8 251 "GreenJarsModel" "restFirst" "I") (by decide +kernel)) (fun _ h9 => h9) rfl (by decide +kernel) rfl rfl (Nat.le_of_ble_eq_true rfl) dX8_rests_338 (fun H locs hP hD hS => ?_)
        have hP : va_P (dC, dI) vwCl (w_X8_rests cI cZ cG o o_text o_kind o_size o_readJar o_page o_trial o_book o_kept o_isKept o_tastedFrom o_tastedTo o_order o_spots o_gains o_value y_thrown v_textSize v_place v_jars v_readPlaces v_readJars v_acts v_tasted v_seed y_some v_rowMany v_rowWay v_stuffWhich v_stuffNear v_keptMany v_keptFirst y_restMany t1 f_kind f_page y_trial y_gains) H := hP
        have hD : va_D A (w_X8_rests cI cZ cG o o_text o_kind o_size o_readJar o_page o_trial o_book o_kept o_isKept o_tastedFrom o_tastedTo o_order o_spots o_gains o_value y_thrown v_textSize v_place v_jars v_readPlaces v_readJars v_acts v_tasted v_seed y_some v_rowMany v_rowWay v_stuffWhich v_stuffNear v_keptMany v_keptFirst y_restMany t1 f_kind f_page y_trial y_gains) := hD
        refine lv_aload_n hx hb dX8_rests_341 rfl (lv_at hl 0 rfl) ?_
        refine lv_dup hx hb dX8_rests_342 rfl ?_
        refine va_get (D := (dC, dI)) (ci := 8) (v := .int y_restMany) (C := RX8) (T := TX8) (N := 33) hx hb hts hiX8 hown hK hP 0 rfl rfl 29 (by decide) (hts (.fieldLink RX8 248 "GreenJarsModel" "restMany" "I") (by decide +kernel)) (fun _ h9 => h9) rfl dX8_rests_343 ?_
        refine lv_iload hx hb dX8_rests_346 (lv_at hl 3 rfl) ?_
        refine lv_if_eq (tgt := 355) hx hb dX8_rests_348 (by decide) (fun c1 => ?_) (fun c1 => ?_)
        · have hf := g_pos c1 hf
          refine lv_iconst (v := (0 : Int32)) hx hb dX8_rests_355 (by decide) ?_
          exact J356 x4 y_restMany (0 : Int32) y_thrown y_some y_restMany t1 y_trial y_gains H locs ls hf (lv_sub hl [0, 1, 2] rfl) hP hD hS
        · have hf := g_neg c1 hf
          refine lv_iconst (v := (1 : Int32)) hx hb dX8_rests_351 (by decide) ?_
          refine lv_goto (tgt := 356) hx hb dX8_rests_352 (by decide) ?_
          exact J356 x4 y_restMany (1 : Int32) y_thrown y_some y_restMany t1 y_trial y_gains H locs ls hf (lv_sub hl [0, 1, 2] rfl) hP hD hS
      have J334 : ∀ (x4 : Int32) (x5 : Int32) (y_thrown : Int32) (y_some : Int32) (y_restMany : Int32) (y_restFirst : Int32) (y_trial : Nat → Int32) (y_gains : Nat → Int32) (H : Heap) (locs : List Loc) (ls : Array Slot), x8_rests_b334 N v_jars f_kind f_page a1 a2 a3 (x8_rests_b208 N v_jars f_kind f_page a1 a2 a3 n208) x4 x5 y_thrown y_some y_restMany y_restFirst y_trial y_gains = some (r0, n_thrown, n_some, n_restMany, n_restFirst, n_trial, n_gains) → lv_has ls 7 [(0, .ref o), (3, .int a3), (4, .int x4), (5, .int x5)] → va_P (dC, dI) vwCl (w_X8_rests cI cZ cG o o_text o_kind o_size o_readJar o_page o_trial o_book o_kept o_isKept o_tastedFrom o_tastedTo o_order o_spots o_gains o_value y_thrown v_textSize v_place v_jars v_readPlaces v_readJars v_acts v_tasted v_seed y_some v_rowMany v_rowWay v_stuffWhich v_stuffNear v_keptMany v_keptFirst y_restMany y_restFirst f_kind f_page y_trial y_gains) H → va_D A (w_X8_rests cI cZ cG o o_text o_kind o_size o_readJar o_page o_trial o_book o_kept o_isKept o_tastedFrom o_tastedTo o_order o_spots o_gains o_value y_thrown v_textSize v_place v_jars v_readPlaces v_readJars v_acts v_tasted v_seed y_some v_rowMany v_rowWay v_stuffWhich v_stuffNear v_keptMany v_keptFirst y_restMany y_restFirst f_kind f_page y_trial y_gains) → va_S A s.heap H locs → W p l e rm_X8_rests s m (([Value.ref o, Value.int a1, Value.int a2, Value.int a3] : List Value).toArray) below meth c H locs 0 0 Q (F0 m 334 ls [.ref o]) := by
        intro x4 x5 y_thrown y_some y_restMany y_restFirst y_trial y_gains H locs ls hf hl hP hD hS
        unfold x8_rests_b334 at hf
        refine lv_aload_n hx hb dX8_rests_334 rfl (lv_at hl 0 rfl) ?_
        refine va_get (D := (dC, dI)) (ci := 8) (v := .int y_restFirst) (C := RX8) (T := TX8) (N := 33) hx hb hts hiX8 hown hK hP 0 rfl rfl 30 (by decide) (hts (.fieldLink RX8 251 "GreenJarsModel" "restFirst" "I") (by decide +kernel)) (fun _ h9 => h9) rfl dX8_rests_335 ?_
        exact J338 x4 x5 y_restFirst y_thrown y_some y_restMany y_restFirst y_trial y_gains H locs ls hf (lv_sub hl [0, 1, 2, 3] rfl) hP hD hS
      have L221 : ∀ (n221 : Nat), ∀ (x4 : Int32) (x5 : Int32) (x6 : Int32) (y_thrown : Int32) (y_some : Int32) (y_restMany : Int32) (y_restFirst : Int32) (y_trial : Nat → Int32) (y_gains : Nat → Int32) (H : Heap) (locs : List Loc) (ls : Array Slot), x8_rests_b221 N v_jars f_kind f_page a1 a2 a3 (x8_rests_b208 N v_jars f_kind f_page a1 a2 a3 n208) n221 x4 x5 x6 y_thrown y_some y_restMany y_restFirst y_trial y_gains = some (r0, n_thrown, n_some, n_restMany, n_restFirst, n_trial, n_gains) → lv_has ls 7 [(0, .ref o), (3, .int a3), (4, .int x4), (5, .int x5), (6, .int x6)] → va_P (dC, dI) vwCl (w_X8_rests cI cZ cG o o_text o_kind o_size o_readJar o_page o_trial o_book o_kept o_isKept o_tastedFrom o_tastedTo o_order o_spots o_gains o_value y_thrown v_textSize v_place v_jars v_readPlaces v_readJars v_acts v_tasted v_seed y_some v_rowMany v_rowWay v_stuffWhich v_stuffNear v_keptMany v_keptFirst y_restMany y_restFirst f_kind f_page y_trial y_gains) H → va_D A (w_X8_rests cI cZ cG o o_text o_kind o_size o_readJar o_page o_trial o_book o_kept o_isKept o_tastedFrom o_tastedTo o_order o_spots o_gains o_value y_thrown v_textSize v_place v_jars v_readPlaces v_readJars v_acts v_tasted v_seed y_some v_rowMany v_rowWay v_stuffWhich v_stuffNear v_keptMany v_keptFirst y_restMany y_restFirst f_kind f_page y_trial y_gains) → va_S A s.heap H locs → W p l e rm_X8_rests s m (([Value.ref o, Value.int a1, Value.int a2, Value.int a3] : List Value).toArray) below meth c H locs 0 0 Q (F0 m 221 ls []) := by
        intro n221
        induction n221 with
        | zero =>
          intro x4 x5 x6 y_thrown y_some y_restMany y_restFirst y_trial y_gains H locs ls hf hl hP hD hS
          exact g_no hf
        | succ n221 ih221 =>
          have J297 : ∀ (x4 : Int32) (x6 : Int32) (y_thrown : Int32) (y_some : Int32) (y_restMany : Int32) (y_restFirst : Int32) (y_trial : Nat → Int32) (y_gains : Nat → Int32) (H : Heap) (locs : List Loc) (ls : Array Slot), x8_rests_b297 N v_jars f_kind f_page a1 a2 a3 (x8_rests_b208 N v_jars f_kind f_page a1 a2 a3 n208) (x8_rests_b221 N v_jars f_kind f_page a1 a2 a3 (x8_rests_b208 N v_jars f_kind f_page a1 a2 a3 n208) n221) x4 x6 y_thrown y_some y_restMany y_restFirst y_trial y_gains = some (r0, n_thrown, n_some, n_restMany, n_restFirst, n_trial, n_gains) → lv_has ls 7 [(0, .ref o), (3, .int a3), (4, .int x4), (6, .int x6)] → va_P (dC, dI) vwCl (w_X8_rests cI cZ cG o o_text o_kind o_size o_readJar o_page o_trial o_book o_kept o_isKept o_tastedFrom o_tastedTo o_order o_spots o_gains o_value y_thrown v_textSize v_place v_jars v_readPlaces v_readJars v_acts v_tasted v_seed y_some v_rowMany v_rowWay v_stuffWhich v_stuffNear v_keptMany v_keptFirst y_restMany y_restFirst f_kind f_page y_trial y_gains) H → va_D A (w_X8_rests cI cZ cG o o_text o_kind o_size o_readJar o_page o_trial o_book o_kept o_isKept o_tastedFrom o_tastedTo o_order o_spots o_gains o_value y_thrown v_textSize v_place v_jars v_readPlaces v_readJars v_acts v_tasted v_seed y_some v_rowMany v_rowWay v_stuffWhich v_stuffNear v_keptMany v_keptFirst y_restMany y_restFirst f_kind f_page y_trial y_gains) → va_S A s.heap H locs → W p l e rm_X8_rests s m (([Value.ref o, Value.int a1, Value.int a2, Value.int a3] : List Value).toArray) below meth c H locs 0 0 Q (F0 m 297 ls []) := by
            intro x4 x6 y_thrown y_some y_restMany y_restFirst y_trial y_gains H locs ls hf hl hP hD hS
            unfold x8_rests_b297 at hf
            refine lv_iconst (v := (0 : Int32)) hx hb dX8_rests_297 (by decide) ?_
            refine lv_istore (lv' := [(5, .int (0 : Int32)), (0, .ref o), (3, .int a3), (4, .int x4), (6, .int x6)]) hx hb dX8_rests_298 hl (by decide) rfl (fun ls hl => ?_)
            refine lv_iinc (v := (x6 + (1 : Int32))) (lv' := [(6, .int (x6 + (1 : Int32))), (5, .int (0 : Int32)), (0, .ref o), (3, .int a3), (4, .int x4)]) hx hb dX8_rests_300 hl (k := 4) rfl rfl (by decide) rfl (fun ls hl => ?_)
            refine lv_goto (tgt := 221) hx hb dX8_rests_303 (by decide) ?_
            exact ih221 x4 (0 : Int32) (x6 + (1 : Int32)) y_thrown y_some y_restMany y_restFirst y_trial y_gains H locs ls hf (lv_sub hl [2, 3, 4, 1, 0] rfl) hP hD hS
          intro x4 x5 x6 y_thrown y_some y_restMany y_restFirst y_trial y_gains H locs ls hf hl hP hD hS
          unfold x8_rests_b221 at hf
          refine lv_iload hx hb dX8_rests_221 (lv_at hl 4 rfl) ?_
          refine lv_iconst (v := (4 : Int32)) hx hb dX8_rests_223 (by decide) ?_
          refine lv_icmp_ge (tgt := 306) hx hb dX8_rests_224 (by decide) (fun c2 => ?_) (fun c2 => ?_)
          · have hf := g_pos c2 hf
            refine lv_aload_n hx hb dX8_rests_306 rfl (lv_at hl 0 rfl) ?_
            refine lv_iload hx hb dX8_rests_307 (lv_at hl 3 rfl) ?_
            refine lv_if_eq (tgt := 334) hx hb dX8_rests_309 (by decide) (fun c3 => ?_) (fun c3 => ?_)
            · have hf := g_pos c3 hf
              exact J334 x4 x5 y_thrown y_some y_restMany y_restFirst y_trial y_gains H locs ls hf (lv_sub hl [0, 1, 2, 3] rfl) hP hD hS
            · have hf := g_neg c3 hf
              refine lv_aload_n hx hb dX8_rests_312 rfl (lv_at hl 0 rfl) ?_
              refine va_get (D := (dC, dI)) (ci := 8) (v := .int y_restMany) (C := RX8) (T := TX8) (N := 33) hx hb hts hiX8 hown hK hP 0 rfl rfl 29 (by decide) (hts (.fieldLink RX8 248 "GreenJarsModel" "restMany" "I") (by decide +kernel)) (fun _ h9 => h9) rfl dX8_rests_313 ?_
              refine lv_if_ne (tgt := 334) hx hb dX8_rests_316 (by decide) (fun c4 => ?_) (fun c4 => ?_)
              · have hf := g_neg c4 hf
                exact J334 x4 x5 y_thrown y_some y_restMany y_restFirst y_trial y_gains H locs ls hf (lv_sub hl [0, 1, 2, 3] rfl) hP hD hS
              · have hf := g_pos c4 hf
                refine lv_bipush (v := (10 : Int32)) hx hb dX8_rests_319 (by decide +kernel) ?_
                refine lv_iload hx hb dX8_rests_321 (lv_at hl 2 rfl) ?_
                refine lv_iconst (v := (4 : Int32)) hx hb dX8_rests_323 (by decide) ?_
                refine lv_idiv hx hb dX8_rests_324 (by decide) ?_
                refine lv_imul hx hb dX8_rests_325 ?_
                refine lv_iload hx hb dX8_rests_326 (lv_at hl 2 rfl) ?_
                refine lv_iconst (v := (4 : Int32)) hx hb dX8_rests_328 (by decide) ?_
                refine lv_irem hx hb dX8_rests_329 (by decide) ?_
                refine lv_iadd hx hb dX8_rests_330 ?_
                refine lv_goto (tgt := 338) hx hb dX8_rests_331 (by decide) ?_
                exact J338 x4 x5 (((10 : Int32) * (x4 / (4 : Int32))) + (x4 - x4 / (4 : Int32) * (4 : Int32))) y_thrown y_some y_restMany y_restFirst y_trial y_gains H locs ls hf (lv_sub hl [0, 1, 2, 3] rfl) hP hD hS
          · have hf := g_neg c2 hf
            refine lv_iload hx hb dX8_rests_227 (lv_at hl 3 rfl) ?_
            refine lv_if_eq (tgt := 297) hx hb dX8_rests_229 (by decide) (fun c5 => ?_) (fun c5 => ?_)
            · have hf := g_pos c5 hf
              exact J297 x4 x6 y_thrown y_some y_restMany y_restFirst y_trial y_gains H locs ls hf (lv_sub hl [0, 1, 2, 4] rfl) hP hD hS
            · have hf := g_neg c5 hf
              refine lv_aload_n hx hb dX8_rests_232 rfl (lv_at hl 0 rfl) ?_
              refine va_get (D := (dC, dI)) (ci := 8) (v := .ref o_gains) (C := RX8) (T := TX8) (N := 33) hx hb hts hiX8 hown hK hP 0 rfl rfl 31 (by decide) (hts (.fieldLink RX8 50 "GreenJarsModel" "gains" "[I") (by decide +kernel)) (fun _ h9 => h9) rfl dX8_rests_233 ?_
              refine lv_iconst (v := (2 : Int32)) hx hb dX8_rests_236 (by decide) ?_
              refine lv_iconst (v := (4 : Int32)) hx hb dX8_rests_237 (by decide) ?_
              refine lv_iload hx hb dX8_rests_238 (lv_at hl 4 rfl) ?_
              refine lv_imul hx hb dX8_rests_240 ?_
              refine lv_iload hx hb dX8_rests_241 (lv_at hl 2 rfl) ?_
              refine lv_iconst (v := (4 : Int32)) hx hb dX8_rests_243 (by decide) ?_
              refine lv_irem hx hb dX8_rests_244 (by decide) ?_
              refine lv_iadd hx hb dX8_rests_245 ?_
              refine lv_imul hx hb dX8_rests_246 ?_
              obtain ⟨h6, hf⟩ := g_chk hf
              refine va_iald hx hb hK hP 4 0 rfl rfl (gIn_vp h6) dX8_rests_247 ?_
              refine lv_aload_n hx hb dX8_rests_248 rfl (lv_at hl 0 rfl) ?_
              refine va_get (D := (dC, dI)) (ci := 8) (v := .ref o_gains) (C := RX8) (T := TX8) (N := 33) hx hb hts hiX8 hown hK hP 0 rfl rfl 31 (by decide) (hts (.fieldLink RX8 50 "GreenJarsModel" "gains" "[I") (by decide +kernel)) (fun _ h9 => h9) rfl dX8_rests_249 ?_
              refine lv_iconst (v := (2 : Int32)) hx hb dX8_rests_252 (by decide) ?_
              refine lv_iload hx hb dX8_rests_253 (lv_at hl 2 rfl) ?_
              refine lv_imul hx hb dX8_rests_255 ?_
              obtain ⟨h7, hf⟩ := g_chk hf
              refine va_iald hx hb hK hP 4 0 rfl rfl (gIn_vp h7) dX8_rests_256 ?_
              refine lv_icmp_gt (tgt := 297) hx hb dX8_rests_257 (by decide) (fun c8 => ?_) (fun c8 => ?_)
              · have hf := g_pos c8 hf
                exact J297 x4 x6 y_thrown y_some y_restMany y_restFirst y_trial y_gains H locs ls hf (lv_sub hl [0, 1, 2, 4] rfl) hP hD hS
              · have hf := g_neg c8 hf
                refine lv_aload_n hx hb dX8_rests_260 rfl (lv_at hl 0 rfl) ?_
                refine va_get (D := (dC, dI)) (ci := 8) (v := .ref o_gains) (C := RX8) (T := TX8) (N := 33) hx hb hts hiX8 hown hK hP 0 rfl rfl 31 (by decide) (hts (.fieldLink RX8 50 "GreenJarsModel" "gains" "[I") (by decide +kernel)) (fun _ h9 => h9) rfl dX8_rests_261 ?_
                refine lv_iconst (v := (2 : Int32)) hx hb dX8_rests_264 (by decide) ?_
                refine lv_iload hx hb dX8_rests_265 (lv_at hl 2 rfl) ?_
                refine lv_iload hx hb dX8_rests_267 (lv_at hl 2 rfl) ?_
                refine lv_iconst (v := (4 : Int32)) hx hb dX8_rests_269 (by decide) ?_
                refine lv_irem hx hb dX8_rests_270 (by decide) ?_
                refine lv_isub hx hb dX8_rests_271 ?_
                refine lv_iload hx hb dX8_rests_272 (lv_at hl 4 rfl) ?_
                refine lv_iadd hx hb dX8_rests_274 ?_
                refine lv_imul hx hb dX8_rests_275 ?_
                refine lv_iconst (v := (1 : Int32)) hx hb dX8_rests_276 (by decide) ?_
                refine lv_iadd hx hb dX8_rests_277 ?_
                obtain ⟨h9, hf⟩ := g_chk hf
                refine va_iald hx hb hK hP 4 0 rfl rfl (gIn_vp h9) dX8_rests_278 ?_
                refine lv_aload_n hx hb dX8_rests_279 rfl (lv_at hl 0 rfl) ?_
                refine va_get (D := (dC, dI)) (ci := 8) (v := .ref o_gains) (C := RX8) (T := TX8) (N := 33) hx hb hts hiX8 hown hK hP 0 rfl rfl 31 (by decide) (hts (.fieldLink RX8 50 "GreenJarsModel" "gains" "[I") (by decide +kernel)) (fun _ h9 => h9) rfl dX8_rests_280 ?_
                refine lv_iconst (v := (2 : Int32)) hx hb dX8_rests_283 (by decide) ?_
                refine lv_iload hx hb dX8_rests_284 (lv_at hl 2 rfl) ?_
                refine lv_imul hx hb dX8_rests_286 ?_
                refine lv_iconst (v := (1 : Int32)) hx hb dX8_rests_287 (by decide) ?_
                refine lv_iadd hx hb dX8_rests_288 ?_
                obtain ⟨h10, hf⟩ := g_chk hf
                refine va_iald hx hb hK hP 4 0 rfl rfl (gIn_vp h10) dX8_rests_289 ?_
                refine lv_icmp_gt (tgt := 297) hx hb dX8_rests_290 (by decide) (fun c11 => ?_) (fun c11 => ?_)
                · have hf := g_pos c11 hf
                  exact J297 x4 x6 y_thrown y_some y_restMany y_restFirst y_trial y_gains H locs ls hf (lv_sub hl [0, 1, 2, 4] rfl) hP hD hS
                · have hf := g_neg c11 hf
                  refine lv_iconst (v := (1 : Int32)) hx hb dX8_rests_293 (by decide) ?_
                  refine lv_goto (tgt := 298) hx hb dX8_rests_294 (by decide) ?_
                  refine lv_istore (lv' := [(5, .int (1 : Int32)), (0, .ref o), (3, .int a3), (4, .int x4), (6, .int x6)]) hx hb dX8_rests_298 hl (by decide) rfl (fun ls hl => ?_)
                  refine lv_iinc (v := (x6 + (1 : Int32))) (lv' := [(6, .int (x6 + (1 : Int32))), (5, .int (1 : Int32)), (0, .ref o), (3, .int a3), (4, .int x4)]) hx hb dX8_rests_300 hl (k := 4) rfl rfl (by decide) rfl (fun ls hl => ?_)
                  refine lv_goto (tgt := 221) hx hb dX8_rests_303 (by decide) ?_
                  exact ih221 x4 (1 : Int32) (x6 + (1 : Int32)) y_thrown y_some y_restMany y_restFirst y_trial y_gains H locs ls hf (lv_sub hl [2, 3, 4, 1, 0] rfl) hP hD hS
      intro x4 y_thrown y_some y_restMany y_restFirst y_trial y_gains H locs ls hf hl hP hD hS
      unfold x8_rests_b208 at hf
      refine lv_iload hx hb dX8_rests_208 (lv_at hl 2 rfl) ?_
      refine lv_bipush (v := (16 : Int32)) hx hb dX8_rests_210 (by decide +kernel) ?_
      refine lv_icmp_ge (tgt := 366) hx hb dX8_rests_212 (by decide) (fun c12 => ?_) (fun c12 => ?_)
      · have hf := g_pos c12 hf
        refine lv_iload_n hx hb dX8_rests_366 rfl (lv_at hl 1 rfl) ?_
        refine lv_if_ne (tgt := 377) hx hb dX8_rests_367 (by decide) (fun c13 => ?_) (fun c13 => ?_)
        · have hf := g_neg c13 hf
          refine lv_aload_n hx hb dX8_rests_377 rfl (lv_at hl 0 rfl) ?_
          refine va_get (D := (dC, dI)) (ci := 8) (v := .int y_restFirst) (C := RX8) (T := TX8) (N := 33) hx hb hts hiX8 hown hK hP 0 rfl rfl 30 (by decide) (hts (.fieldLink RX8 251 "GreenJarsModel" "restFirst" "I") (by decide +kernel)) (fun _ h9 => h9) rfl dX8_rests_378 ?_
          rw [hQ]
          cases hf
          exact W.iret hx hb hr (fun t ht hW => ⟨⟨_, (), rfl, rfl, by rw [ht]; exact hP, va_K.moved hW.alike hK, hD⟩, hS.F ht⟩) hS.2.2 dX8_rests_381
        · have hf := g_pos c13 hf
          refine lv_aload_n hx hb dX8_rests_370 rfl (lv_at hl 0 rfl) ?_
          refine va_get (D := (dC, dI)) (ci := 8) (v := .int y_restMany) (C := RX8) (T := TX8) (N := 33) hx hb hts hiX8 hown hK hP 0 rfl rfl 29 (by decide) (hts (.fieldLink RX8 248 "GreenJarsModel" "restMany" "I") (by decide +kernel)) (fun _ h9 => h9) rfl dX8_rests_371 ?_
          refine lv_goto (tgt := 381) hx hb dX8_rests_374 (by decide) ?_
          rw [hQ]
          cases hf
          exact W.iret hx hb hr (fun t ht hW => ⟨⟨_, (), rfl, rfl, by rw [ht]; exact hP, va_K.moved hW.alike hK, hD⟩, hS.F ht⟩) hS.2.2 dX8_rests_381
      · have hf := g_neg c12 hf
        refine lv_iconst (v := (1 : Int32)) hx hb dX8_rests_215 (by decide) ?_
        refine lv_istore (lv' := [(5, .int (1 : Int32)), (0, .ref o), (3, .int a3), (4, .int x4)]) hx hb dX8_rests_216 hl (by decide) rfl (fun ls hl => ?_)
        refine lv_iconst (v := (0 : Int32)) hx hb dX8_rests_218 (by decide) ?_
        refine lv_istore (lv' := [(6, .int (0 : Int32)), (5, .int (1 : Int32)), (0, .ref o), (3, .int a3), (4, .int x4)]) hx hb dX8_rests_219 hl (by decide) rfl (fun ls hl => ?_)
        exact L221 N x4 (1 : Int32) (0 : Int32) y_thrown y_some y_restMany y_restFirst y_trial y_gains H locs ls hf (lv_sub hl [2, 3, 4, 1, 0] rfl) hP hD hS
  have L69 : ∀ (n69 : Nat), ∀ (x4 : Int32) (y_thrown : Int32) (y_some : Int32) (y_restMany : Int32) (y_restFirst : Int32) (y_trial : Nat → Int32) (y_gains : Nat → Int32) (H : Heap) (locs : List Loc) (ls : Array Slot), x8_rests_b69 N v_jars f_kind f_page a1 a2 a3 n69 x4 y_thrown y_some y_restMany y_restFirst y_trial y_gains = some (r0, n_thrown, n_some, n_restMany, n_restFirst, n_trial, n_gains) → lv_has ls 7 [(0, .ref o), (1, .int a1), (2, .int a2), (3, .int a3), (4, .int x4)] → va_P (dC, dI) vwCl (w_X8_rests cI cZ cG o o_text o_kind o_size o_readJar o_page o_trial o_book o_kept o_isKept o_tastedFrom o_tastedTo o_order o_spots o_gains o_value y_thrown v_textSize v_place v_jars v_readPlaces v_readJars v_acts v_tasted v_seed y_some v_rowMany v_rowWay v_stuffWhich v_stuffNear v_keptMany v_keptFirst y_restMany y_restFirst f_kind f_page y_trial y_gains) H → va_D A (w_X8_rests cI cZ cG o o_text o_kind o_size o_readJar o_page o_trial o_book o_kept o_isKept o_tastedFrom o_tastedTo o_order o_spots o_gains o_value y_thrown v_textSize v_place v_jars v_readPlaces v_readJars v_acts v_tasted v_seed y_some v_rowMany v_rowWay v_stuffWhich v_stuffNear v_keptMany v_keptFirst y_restMany y_restFirst f_kind f_page y_trial y_gains) → va_S A s.heap H locs → W p l e rm_X8_rests s m (([Value.ref o, Value.int a1, Value.int a2, Value.int a3] : List Value).toArray) below meth c H locs 0 0 Q (F0 m 69 ls []) := by
    intro n69
    induction n69 with
    | zero =>
      intro x4 y_thrown y_some y_restMany y_restFirst y_trial y_gains H locs ls hf hl hP hD hS
      exact g_no hf
    | succ n69 ih69 =>
      have J144 : ∀ (x4 : Int32) (x5 : Int32) (t0 : Int32) (y_thrown : Int32) (y_some : Int32) (y_restMany : Int32) (y_restFirst : Int32) (y_trial : Nat → Int32) (y_gains : Nat → Int32) (H : Heap) (locs : List Loc) (ls : Array Slot), x8_rests_b144 N v_jars f_kind f_page a1 a2 a3 (x8_rests_b69 N v_jars f_kind f_page a1 a2 a3 n69) x4 x5 t0 y_thrown y_some y_restMany y_restFirst y_trial y_gains = some (r0, n_thrown, n_some, n_restMany, n_restFirst, n_trial, n_gains) → lv_has ls 7 [(0, .ref o), (1, .int a1), (2, .int a2), (3, .int a3), (4, .int x4), (5, .int x5)] → va_P (dC, dI) vwCl (w_X8_rests cI cZ cG o o_text o_kind o_size o_readJar o_page o_trial o_book o_kept o_isKept o_tastedFrom o_tastedTo o_order o_spots o_gains o_value y_thrown v_textSize v_place v_jars v_readPlaces v_readJars v_acts v_tasted v_seed y_some v_rowMany v_rowWay v_stuffWhich v_stuffNear v_keptMany v_keptFirst y_restMany y_restFirst f_kind f_page y_trial y_gains) H → va_D A (w_X8_rests cI cZ cG o o_text o_kind o_size o_readJar o_page o_trial o_book o_kept o_isKept o_tastedFrom o_tastedTo o_order o_spots o_gains o_value y_thrown v_textSize v_place v_jars v_readPlaces v_readJars v_acts v_tasted v_seed y_some v_rowMany v_rowWay v_stuffWhich v_stuffNear v_keptMany v_keptFirst y_restMany y_restFirst f_kind f_page y_trial y_gains) → va_S A s.heap H locs → W p l e rm_X8_rests s m (([Value.ref o, Value.int a1, Value.int a2, Value.int a3] : List Value).toArray) below meth c H locs 0 0 Q (F0 m 144 ls [.int t0]) := by
        intro x4 x5 t0 y_thrown y_some y_restMany y_restFirst y_trial y_gains H locs ls hf hl hP hD hS
        unfold x8_rests_b144 at hf
        refine lv_istore (lv' := [(6, .int t0), (0, .ref o), (1, .int a1), (2, .int a2), (3, .int a3), (4, .int x4), (5, .int x5)]) hx hb dX8_rests_144 hl (by decide) rfl (fun ls hl => ?_)
        refine lv_aload_n hx hb dX8_rests_146 rfl (lv_at hl 1 rfl) ?_
        refine va_get (D := (dC, dI)) (ci := 8) (v := .ref o_gains) (C := RX8) (T := TX8) (N := 33) hx hb hts hiX8 hown hK hP 0 rfl rfl 31 (by decide) (hts (.fieldLink RX8 50 "GreenJarsModel" "gains" "[I") (by decide +kernel)) (fun _ h9 => h9) rfl dX8_rests_147 ?_
        refine lv_iconst (v := (2 : Int32)) hx hb dX8_rests_150 (by decide) ?_
        refine lv_iload hx hb dX8_rests_151 (lv_at hl 5 rfl) ?_
        refine lv_imul hx hb dX8_rests_153 ?_
        refine lv_iload hx hb dX8_rests_154 (lv_at hl 6 rfl) ?_
        refine lv_iload hx hb dX8_rests_156 (lv_at hl 0 rfl) ?_
        refine lv_iload hx hb dX8_rests_158 (lv_at hl 5 rfl) ?_
        refine lv_iconst (v := (4 : Int32)) hx hb dX8_rests_160 (by decide) ?_
        refine lv_idiv hx hb dX8_rests_161 (by decide) ?_
        obtain ⟨r14, hc15, hf⟩ := g_b1 hf
        refine g_rS (As := [.int x5, .int t0, .int (x4 / (4 : Int32))]) (rest := [.int ((2 : Int32) * x4), .ref o_gains]) ⟨hx, hb, hml, hown, hts⟩ (c_X8_gain l dC dI cI cZ cG    x5 t0 (x4 / (4 : Int32)) hc15) (va_cwS 3 hts gX8_rests_X8_gain rfl rfl rfl (by decide +kernel) ⟨Nat.le_of_ble_eq_true rfl, Nat.le_of_ble_eq_true rfl⟩) hK hN (hP.sub [] rfl) rfl hl.1 rfl (Nat.le_of_ble_eq_true rfl) dX8_rests_162 ⟨Nat.zero_le _, Nat.zero_le _⟩ ?_
        obtain ⟨h16, hf⟩ := g_chk hf
        refine va_iast hx hb hK hP hD hS 4 0 rfl rfl (gIn_vp h16) dX8_rests_165 (fun H locs hP hD hS => ?_)
        have hP : va_P (dC, dI) vwCl (w_X8_rests cI cZ cG o o_text o_kind o_size o_readJar o_page o_trial o_book o_kept o_isKept o_tastedFrom o_tastedTo o_order o_spots o_gains o_value y_thrown v_textSize v_place v_jars v_readPlaces v_readJars v_acts v_tasted v_seed y_some v_rowMany v_rowWay v_stuffWhich v_stuffNear v_keptMany v_keptFirst y_restMany y_restFirst f_kind f_page y_trial (upd y_gains ((2 : Int32) * x4).toNatClampNeg r14)) H := hP
        have hD : va_D A (w_X8_rests cI cZ cG o o_text o_kind o_size o_readJar o_page o_trial o_book o_kept o_isKept o_tastedFrom o_tastedTo o_order o_spots o_gains o_value y_thrown v_textSize v_place v_jars v_readPlaces v_readJars v_acts v_tasted v_seed y_some v_rowMany v_rowWay v_stuffWhich v_stuffNear v_keptMany v_keptFirst y_restMany y_restFirst f_kind f_page y_trial (upd y_gains ((2 : Int32) * x4).toNatClampNeg r14)) := hD
        refine lv_aload_n hx hb dX8_rests_166 rfl (lv_at hl 1 rfl) ?_
        refine va_get (D := (dC, dI)) (ci := 8) (v := .ref o_gains) (C := RX8) (T := TX8) (N := 33) hx hb hts hiX8 hown hK hP 0 rfl rfl 31 (by decide) (hts (.fieldLink RX8 50 "GreenJarsModel" "gains" "[I") (by decide +kernel)) (fun _ h9 => h9) rfl dX8_rests_167 ?_
        refine lv_iconst (v := (2 : Int32)) hx hb dX8_rests_170 (by decide) ?_
        refine lv_iload hx hb dX8_rests_171 (lv_at hl 5 rfl) ?_
        refine lv_imul hx hb dX8_rests_173 ?_
        refine lv_iconst (v := (1 : Int32)) hx hb dX8_rests_174 (by decide) ?_
        refine lv_iadd hx hb dX8_rests_175 ?_
        refine lv_iload hx hb dX8_rests_176 (lv_at hl 0 rfl) ?_
        refine lv_iload hx hb dX8_rests_178 (lv_at hl 6 rfl) ?_
        refine lv_iload hx hb dX8_rests_180 (lv_at hl 5 rfl) ?_
        refine lv_iconst (v := (4 : Int32)) hx hb dX8_rests_182 (by decide) ?_
        refine lv_irem hx hb dX8_rests_183 (by decide) ?_
        obtain ⟨r17, hc18, hf⟩ := g_b1 hf
        refine g_rS (As := [.int t0, .int x5, .int (x4 - x4 / (4 : Int32) * (4 : Int32))]) (rest := [.int (((2 : Int32) * x4) + (1 : Int32)), .ref o_gains]) ⟨hx, hb, hml, hown, hts⟩ (c_X8_gain l dC dI cI cZ cG    t0 x5 (x4 - x4 / (4 : Int32) * (4 : Int32)) hc18) (va_cwS 3 hts gX8_rests_X8_gain rfl rfl rfl (by decide +kernel) ⟨Nat.le_of_ble_eq_true rfl, Nat.le_of_ble_eq_true rfl⟩) hK hN (hP.sub [] rfl) rfl hl.1 rfl (Nat.le_of_ble_eq_true rfl) dX8_rests_184 ⟨Nat.zero_le _, Nat.zero_le _⟩ ?_
        obtain ⟨h19, hf⟩ := g_chk hf
        refine va_iast hx hb hK hP hD hS 4 0 rfl rfl (gIn_vp h19) dX8_rests_187 (fun H locs hP hD hS => ?_)
        have hP : va_P (dC, dI) vwCl (w_X8_rests cI cZ cG o o_text o_kind o_size o_readJar o_page o_trial o_book o_kept o_isKept o_tastedFrom o_tastedTo o_order o_spots o_gains o_value y_thrown v_textSize v_place v_jars v_readPlaces v_readJars v_acts v_tasted v_seed y_some v_rowMany v_rowWay v_stuffWhich v_stuffNear v_keptMany v_keptFirst y_restMany y_restFirst f_kind f_page y_trial (upd (upd y_gains ((2 : Int32) * x4).toNatClampNeg r14) (((2 : Int32) * x4) + (1 : Int32)).toNatClampNeg r17)) H := hP
        have hD : va_D A (w_X8_rests cI cZ cG o o_text o_kind o_size o_readJar o_page o_trial o_book o_kept o_isKept o_tastedFrom o_tastedTo o_order o_spots o_gains o_value y_thrown v_textSize v_place v_jars v_readPlaces v_readJars v_acts v_tasted v_seed y_some v_rowMany v_rowWay v_stuffWhich v_stuffNear v_keptMany v_keptFirst y_restMany y_restFirst f_kind f_page y_trial (upd (upd y_gains ((2 : Int32) * x4).toNatClampNeg r14) (((2 : Int32) * x4) + (1 : Int32)).toNatClampNeg r17)) := hD
        refine lv_iinc (v := (x4 + (1 : Int32))) (lv' := [(4, .int (x4 + (1 : Int32))), (6, .int t0), (0, .ref o), (1, .int a1), (2, .int a2), (3, .int a3), (5, .int x5)]) hx hb dX8_rests_188 hl (k := 5) rfl rfl (by decide) rfl (fun ls hl => ?_)
        refine lv_goto (tgt := 69) hx hb dX8_rests_191 (by decide) ?_
        exact ih69 (x4 + (1 : Int32)) y_thrown y_some y_restMany y_restFirst y_trial (upd (upd y_gains ((2 : Int32) * x4).toNatClampNeg r14) (((2 : Int32) * x4) + (1 : Int32)).toNatClampNeg r17) H locs ls hf (lv_sub hl [2, 3, 4, 5, 0] rfl) hP hD hS
      have J124 : ∀ (x4 : Int32) (t0 : Int32) (y_thrown : Int32) (y_some : Int32) (y_restMany : Int32) (y_restFirst : Int32) (y_trial : Nat → Int32) (y_gains : Nat → Int32) (H : Heap) (locs : List Loc) (ls : Array Slot), x8_rests_b124 N v_jars f_kind f_page a1 a2 a3 (x8_rests_b69 N v_jars f_kind f_page a1 a2 a3 n69) x4 t0 y_thrown y_some y_restMany y_restFirst y_trial y_gains = some (r0, n_thrown, n_some, n_restMany, n_restFirst, n_trial, n_gains) → lv_has ls 7 [(0, .ref o), (1, .int a1), (2, .int a2), (3, .int a3), (4, .int x4)] → va_P (dC, dI) vwCl (w_X8_rests cI cZ cG o o_text o_kind o_size o_readJar o_page o_trial o_book o_kept o_isKept o_tastedFrom o_tastedTo o_order o_spots o_gains o_value y_thrown v_textSize v_place v_jars v_readPlaces v_readJars v_acts v_tasted v_seed y_some v_rowMany v_rowWay v_stuffWhich v_stuffNear v_keptMany v_keptFirst y_restMany y_restFirst f_kind f_page y_trial y_gains) H → va_D A (w_X8_rests cI cZ cG o o_text o_kind o_size o_readJar o_page o_trial o_book o_kept o_isKept o_tastedFrom o_tastedTo o_order o_spots o_gains o_value y_thrown v_textSize v_place v_jars v_readPlaces v_readJars v_acts v_tasted v_seed y_some v_rowMany v_rowWay v_stuffWhich v_stuffNear v_keptMany v_keptFirst y_restMany y_restFirst f_kind f_page y_trial y_gains) → va_S A s.heap H locs → W p l e rm_X8_rests s m (([Value.ref o, Value.int a1, Value.int a2, Value.int a3] : List Value).toArray) below meth c H locs 0 0 Q (F0 m 124 ls [.int t0]) := by
        intro x4 t0 y_thrown y_some y_restMany y_restFirst y_trial y_gains H locs ls hf hl hP hD hS
        unfold x8_rests_b124 at hf
        refine lv_istore (lv' := [(5, .int t0), (0, .ref o), (1, .int a1), (2, .int a2), (3, .int a3), (4, .int x4)]) hx hb dX8_rests_124 hl (by decide) rfl (fun ls hl => ?_)
        refine lv_aload_n hx hb dX8_rests_126 rfl (lv_at hl 1 rfl) ?_
        refine lv_aload_n hx hb dX8_rests_127 rfl (lv_at hl 1 rfl) ?_
        refine va_get (D := (dC, dI)) (ci := 8) (v := .ref o_trial) (C := RX8) (T := TX8) (N := 33) hx hb hts hiX8 hown hK hP 0 rfl rfl 11 (by decide) (hts (.fieldLink RX8 25 "GreenJarsModel" "trial" "[I") (by decide +kernel)) (fun _ h9 => h9) rfl dX8_rests_128 ?_
        refine lv_iload_n hx hb dX8_rests_131 rfl (lv_at hl 3 rfl) ?_
        obtain ⟨r20, hc21, hf⟩ := g_b1 hf
        refine g_rV (As := [.ref o_trial, .int a2]) (rest := []) ⟨hx, hb, hml, hown, hts⟩ (c_X8_sees l dC dI cI cZ cG o o_text o_kind o_size o_readJar o_page o_trial o_book o_kept o_isKept o_tastedFrom o_tastedTo o_order o_spots o_gains o_value o_trial  y_thrown v_textSize v_place v_jars v_readPlaces v_readJars v_acts v_tasted v_seed y_some v_rowMany v_rowWay v_stuffWhich v_stuffNear v_keptMany v_keptFirst y_restMany y_restFirst f_kind y_trial a2 hc21) (cwV 2 hts gX8_rests_X8_sees rfl rfl rfl (by decide +kernel) ⟨Nat.le_of_ble_eq_true rfl, Nat.le_of_ble_eq_true rfl⟩) hK hN (hP.sub [0, 1, 3] rfl) (va_recv hK hP (ci := 8) (q0 := 0) rfl rfl) rfl hl.1 rfl (Nat.le_of_ble_eq_true rfl) dX8_rests_132 ⟨Nat.zero_le _, Nat.zero_le _⟩ ?_
        refine lv_iload_n hx hb dX8_rests_135 rfl (lv_at hl 2 rfl) ?_
        refine lv_icmp_ne (tgt := 143) hx hb dX8_rests_136 (by decide) (fun c22 => ?_) (fun c22 => ?_)
        · have hf := g_neg c22 hf
          refine lv_iconst (v := (0 : Int32)) hx hb dX8_rests_143 (by decide) ?_
          exact J144 x4 t0 (0 : Int32) y_thrown y_some y_restMany y_restFirst y_trial y_gains H locs ls hf (lv_sub hl [1, 2, 3, 4, 5, 0] rfl) hP hD hS
        · have hf := g_pos c22 hf
          refine lv_iconst (v := (1 : Int32)) hx hb dX8_rests_139 (by decide) ?_
          refine lv_goto (tgt := 144) hx hb dX8_rests_140 (by decide) ?_
          exact J144 x4 t0 (1 : Int32) y_thrown y_some y_restMany y_restFirst y_trial y_gains H locs ls hf (lv_sub hl [1, 2, 3, 4, 5, 0] rfl) hP hD hS
      intro x4 y_thrown y_some y_restMany y_restFirst y_trial y_gains H locs ls hf hl hP hD hS
      unfold x8_rests_b69 at hf
      refine lv_iload hx hb dX8_rests_69 (lv_at hl 4 rfl) ?_
      refine lv_bipush (v := (16 : Int32)) hx hb dX8_rests_71 (by decide +kernel) ?_
      refine lv_icmp_ge (tgt := 194) hx hb dX8_rests_73 (by decide) (fun c23 => ?_) (fun c23 => ?_)
      · have hf := g_pos c23 hf
        refine lv_aload_n hx hb dX8_rests_194 rfl (lv_at hl 0 rfl) ?_
        refine lv_iconst (v := (0 : Int32)) hx hb dX8_rests_195 (by decide) ?_
        refine va_put (D := (dC, dI)) (ci := 8) (v := .int (0 : Int32)) (ty := .int) (C := RX8) (T := TX8) (N := 33) hx hb hts hiX8 tyX8 tyX8_ok nmX8 hown hK hP hD hS 0 rfl rfl 29 (by decide) (hts (.fieldLink RX8 248 "GreenJarsModel" "restMany" "I") (by decide +kernel)) (fun _ h9 => h9) rfl (by decide +kernel) rfl rfl (Nat.le_of_ble_eq_true rfl) dX8_rests_196 (fun H locs hP hD hS => ?_)
        have hP : va_P (dC, dI) vwCl (w_X8_rests cI cZ cG o o_text o_kind o_size o_readJar o_page o_trial o_book o_kept o_isKept o_tastedFrom o_tastedTo o_order o_spots o_gains o_value y_thrown v_textSize v_place v_jars v_readPlaces v_readJars v_acts v_tasted v_seed y_some v_rowMany v_rowWay v_stuffWhich v_stuffNear v_keptMany v_keptFirst (0 : Int32) y_restFirst f_kind f_page y_trial y_gains) H := hP
        have hD : va_D A (w_X8_rests cI cZ cG o o_text o_kind o_size o_readJar o_page o_trial o_book o_kept o_isKept o_tastedFrom o_tastedTo o_order o_spots o_gains o_value y_thrown v_textSize v_place v_jars v_readPlaces v_readJars v_acts v_tasted v_seed y_some v_rowMany v_rowWay v_stuffWhich v_stuffNear v_keptMany v_keptFirst (0 : Int32) y_restFirst f_kind f_page y_trial y_gains) := hD
        refine lv_aload_n hx hb dX8_rests_199 rfl (lv_at hl 0 rfl) ?_
        refine lv_bipush (v := (-9 : Int32)) hx hb dX8_rests_200 (by decide +kernel) ?_
        refine va_put (D := (dC, dI)) (ci := 8) (v := .int (-9 : Int32)) (ty := .int) (C := RX8) (T := TX8) (N := 33) hx hb hts hiX8 tyX8 tyX8_ok nmX8 hown hK hP hD hS 0 rfl rfl 30 (by decide) (hts (.fieldLink RX8 251 "GreenJarsModel" "restFirst" "I") (by decide +kernel)) (fun _ h9 => h9) rfl (by decide +kernel) rfl rfl (Nat.le_of_ble_eq_true rfl) dX8_rests_202 (fun H locs hP hD hS => ?_)
        have hP : va_P (dC, dI) vwCl (w_X8_rests cI cZ cG o o_text o_kind o_size o_readJar o_page o_trial o_book o_kept o_isKept o_tastedFrom o_tastedTo o_order o_spots o_gains o_value y_thrown v_textSize v_place v_jars v_readPlaces v_readJars v_acts v_tasted v_seed y_some v_rowMany v_rowWay v_stuffWhich v_stuffNear v_keptMany v_keptFirst (0 : Int32) (-9 : Int32) f_kind f_page y_trial y_gains) H := hP
        have hD : va_D A (w_X8_rests cI cZ cG o o_text o_kind o_size o_readJar o_page o_trial o_book o_kept o_isKept o_tastedFrom o_tastedTo o_order o_spots o_gains o_value y_thrown v_textSize v_place v_jars v_readPlaces v_readJars v_acts v_tasted v_seed y_some v_rowMany v_rowWay v_stuffWhich v_stuffNear v_keptMany v_keptFirst (0 : Int32) (-9 : Int32) f_kind f_page y_trial y_gains) := hD
        refine lv_iconst (v := (0 : Int32)) hx hb dX8_rests_205 (by decide) ?_
        refine lv_istore (lv' := [(4, .int (0 : Int32)), (0, .ref o), (1, .int a1), (2, .int a2), (3, .int a3)]) hx hb dX8_rests_206 hl (by decide) rfl (fun ls hl => ?_)
        exact L208 N (0 : Int32) y_thrown y_some (0 : Int32) (-9 : Int32) y_trial y_gains H locs ls hf (lv_sub hl [1, 4, 0] rfl) hP hD hS
      · have hf := g_neg c23 hf
        refine lv_aload_n hx hb dX8_rests_76 rfl (lv_at hl 0 rfl) ?_
        obtain ⟨y24, y25, hc26, hf⟩ := g_b2 hf
        refine g_wVv (As := []) (rest := []) (wr := [(o_kind, .inl (cI, 6, .inl f_kind)), (o_gains, .inl (cI, 32, .inl y_gains))]) (wn := (w_X8_rests cI cZ cG o o_text o_kind o_size o_readJar o_page o_trial o_book o_kept o_isKept o_tastedFrom o_tastedTo o_order o_spots o_gains o_value y_thrown v_textSize v_place v_jars v_readPlaces v_readJars v_acts v_tasted v_seed y24 v_rowMany v_rowWay v_stuffWhich v_stuffNear v_keptMany v_keptFirst y_restMany y_restFirst f_kind f_page y25 y_gains)) ⟨hx, hb, hml, hown, hts⟩ (c_X8_begin l dC dI cI cZ cG o o_text o_kind o_size o_readJar o_page o_trial o_book o_kept o_isKept o_tastedFrom o_tastedTo o_order o_spots o_gains o_value H.size  y_thrown v_textSize v_place v_jars v_readPlaces v_readJars v_acts v_tasted v_seed y_some v_rowMany v_rowWay v_stuffWhich v_stuffNear v_keptMany v_keptFirst y_restMany y_restFirst f_page y_trial hc26) (cwV 0 hts gX8_rests_X8_begin rfl rfl rfl (by decide +kernel) ⟨Nat.le_of_ble_eq_true rfl, Nat.le_of_ble_eq_true rfl⟩) hK hN hP hD hS hA [0, 2, 3] [1, 4] [2, 0, 3, 4, 1] rfl rfl (by decide) rfl (by decide) (by decide) rfl (by decide) (va_recv hK hP (ci := 8) (q0 := 0) rfl rfl) rfl hl.1 rfl (Nat.le_of_ble_eq_true rfl) dX8_rests_77 ⟨Nat.zero_le _, Nat.zero_le _⟩ (fun H locs hP hD hS => ?_)
        refine lv_aload_n hx hb dX8_rests_80 rfl (lv_at hl 0 rfl) ?_
        refine va_get (D := (dC, dI)) (ci := 8) (v := .ref o_trial) (C := RX8) (T := TX8) (N := 33) hx hb hts hiX8 hown hK hP 0 rfl rfl 11 (by decide) (hts (.fieldLink RX8 25 "GreenJarsModel" "trial" "[I") (by decide +kernel)) (fun _ h9 => h9) rfl dX8_rests_81 ?_
        refine lv_bipush (v := (24 : Int32)) hx hb dX8_rests_84 (by decide +kernel) ?_
        refine lv_iload_n hx hb dX8_rests_86 rfl (lv_at hl 1 rfl) ?_
        refine lv_iadd hx hb dX8_rests_87 ?_
        refine lv_iload hx hb dX8_rests_88 (lv_at hl 4 rfl) ?_
        refine lv_iconst (v := (4 : Int32)) hx hb dX8_rests_90 (by decide) ?_
        refine lv_idiv hx hb dX8_rests_91 (by decide) ?_
        obtain ⟨h27, hf⟩ := g_chk hf
        refine va_iast hx hb hK hP hD hS 3 0 rfl rfl (gIn_vp h27) dX8_rests_92 (fun H locs hP hD hS => ?_)
        have hP : va_P (dC, dI) vwCl (w_X8_rests cI cZ cG o o_text o_kind o_size o_readJar o_page o_trial o_book o_kept o_isKept o_tastedFrom o_tastedTo o_order o_spots o_gains o_value y_thrown v_textSize v_place v_jars v_readPlaces v_readJars v_acts v_tasted v_seed y24 v_rowMany v_rowWay v_stuffWhich v_stuffNear v_keptMany v_keptFirst y_restMany y_restFirst f_kind f_page (upd y25 ((24 : Int32) + a1).toNatClampNeg (x4 / (4 : Int32))) y_gains) H := hP
        have hD : va_D A (w_X8_rests cI cZ cG o o_text o_kind o_size o_readJar o_page o_trial o_book o_kept o_isKept o_tastedFrom o_tastedTo o_order o_spots o_gains o_value y_thrown v_textSize v_place v_jars v_readPlaces v_readJars v_acts v_tasted v_seed y24 v_rowMany v_rowWay v_stuffWhich v_stuffNear v_keptMany v_keptFirst y_restMany y_restFirst f_kind f_page (upd y25 ((24 : Int32) + a1).toNatClampNeg (x4 / (4 : Int32))) y_gains) := hD
        refine lv_aload_n hx hb dX8_rests_93 rfl (lv_at hl 0 rfl) ?_
        refine va_get (D := (dC, dI)) (ci := 8) (v := .ref o_trial) (C := RX8) (T := TX8) (N := 33) hx hb hts hiX8 hown hK hP 0 rfl rfl 11 (by decide) (hts (.fieldLink RX8 25 "GreenJarsModel" "trial" "[I") (by decide +kernel)) (fun _ h9 => h9) rfl dX8_rests_94 ?_
        refine lv_bipush (v := (24 : Int32)) hx hb dX8_rests_97 (by decide +kernel) ?_
        refine lv_iload_n hx hb dX8_rests_99 rfl (lv_at hl 2 rfl) ?_
        refine lv_iadd hx hb dX8_rests_100 ?_
        refine lv_iload hx hb dX8_rests_101 (lv_at hl 4 rfl) ?_
        refine lv_iconst (v := (4 : Int32)) hx hb dX8_rests_103 (by decide) ?_
        refine lv_irem hx hb dX8_rests_104 (by decide) ?_
        obtain ⟨h28, hf⟩ := g_chk hf
        refine va_iast hx hb hK hP hD hS 3 0 rfl rfl (gIn_vp h28) dX8_rests_105 (fun H locs hP hD hS => ?_)
        have hP : va_P (dC, dI) vwCl (w_X8_rests cI cZ cG o o_text o_kind o_size o_readJar o_page o_trial o_book o_kept o_isKept o_tastedFrom o_tastedTo o_order o_spots o_gains o_value y_thrown v_textSize v_place v_jars v_readPlaces v_readJars v_acts v_tasted v_seed y24 v_rowMany v_rowWay v_stuffWhich v_stuffNear v_keptMany v_keptFirst y_restMany y_restFirst f_kind f_page (upd (upd y25 ((24 : Int32) + a1).toNatClampNeg (x4 / (4 : Int32))) ((24 : Int32) + a2).toNatClampNeg (x4 - x4 / (4 : Int32) * (4 : Int32))) y_gains) H := hP
        have hD : va_D A (w_X8_rests cI cZ cG o o_text o_kind o_size o_readJar o_page o_trial o_book o_kept o_isKept o_tastedFrom o_tastedTo o_order o_spots o_gains o_value y_thrown v_textSize v_place v_jars v_readPlaces v_readJars v_acts v_tasted v_seed y24 v_rowMany v_rowWay v_stuffWhich v_stuffNear v_keptMany v_keptFirst y_restMany y_restFirst f_kind f_page (upd (upd y25 ((24 : Int32) + a1).toNatClampNeg (x4 / (4 : Int32))) ((24 : Int32) + a2).toNatClampNeg (x4 - x4 / (4 : Int32) * (4 : Int32))) y_gains) := hD
        refine lv_aload_n hx hb dX8_rests_106 rfl (lv_at hl 0 rfl) ?_
        refine lv_aload_n hx hb dX8_rests_107 rfl (lv_at hl 0 rfl) ?_
        refine va_get (D := (dC, dI)) (ci := 8) (v := .ref o_trial) (C := RX8) (T := TX8) (N := 33) hx hb hts hiX8 hown hK hP 0 rfl rfl 11 (by decide) (hts (.fieldLink RX8 25 "GreenJarsModel" "trial" "[I") (by decide +kernel)) (fun _ h9 => h9) rfl dX8_rests_108 ?_
        refine lv_iload_n hx hb dX8_rests_111 rfl (lv_at hl 1 rfl) ?_
        obtain ⟨r29, hc30, hf⟩ := g_b1 hf
        refine g_rV (As := [.ref o_trial, .int a1]) (rest := []) ⟨hx, hb, hml, hown, hts⟩ (c_X8_sees l dC dI cI cZ cG o o_text o_kind o_size o_readJar o_page o_trial o_book o_kept o_isKept o_tastedFrom o_tastedTo o_order o_spots o_gains o_value o_trial  y_thrown v_textSize v_place v_jars v_readPlaces v_readJars v_acts v_tasted v_seed y24 v_rowMany v_rowWay v_stuffWhich v_stuffNear v_keptMany v_keptFirst y_restMany y_restFirst f_kind (upd (upd y25 ((24 : Int32) + a1).toNatClampNeg (x4 / (4 : Int32))) ((24 : Int32) + a2).toNatClampNeg (x4 - x4 / (4 : Int32) * (4 : Int32))) a1 hc30) (cwV 2 hts gX8_rests_X8_sees rfl rfl rfl (by decide +kernel) ⟨Nat.le_of_ble_eq_true rfl, Nat.le_of_ble_eq_true rfl⟩) hK hN (hP.sub [0, 1, 3] rfl) (va_recv hK hP (ci := 8) (q0 := 0) rfl rfl) rfl hl.1 rfl (Nat.le_of_ble_eq_true rfl) dX8_rests_112 ⟨Nat.zero_le _, Nat.zero_le _⟩ ?_
        refine lv_iload_n hx hb dX8_rests_115 rfl (lv_at hl 2 rfl) ?_
        refine lv_icmp_ne (tgt := 123) hx hb dX8_rests_116 (by decide) (fun c31 => ?_) (fun c31 => ?_)
        · have hf := g_neg c31 hf
          refine lv_iconst (v := (0 : Int32)) hx hb dX8_rests_123 (by decide) ?_
          exact J124 x4 (0 : Int32) y_thrown y24 y_restMany y_restFirst (upd (upd y25 ((24 : Int32) + a1).toNatClampNeg (x4 / (4 : Int32))) ((24 : Int32) + a2).toNatClampNeg (x4 - x4 / (4 : Int32) * (4 : Int32))) y_gains H locs ls hf (lv_sub hl [0, 1, 2, 3, 4] rfl) hP hD hS
        · have hf := g_pos c31 hf
          refine lv_iconst (v := (1 : Int32)) hx hb dX8_rests_119 (by decide) ?_
          refine lv_goto (tgt := 124) hx hb dX8_rests_120 (by decide) ?_
          exact J124 x4 (1 : Int32) y_thrown y24 y_restMany y_restFirst (upd (upd y25 ((24 : Int32) + a1).toNatClampNeg (x4 / (4 : Int32))) ((24 : Int32) + a2).toNatClampNeg (x4 - x4 / (4 : Int32) * (4 : Int32))) y_gains H locs ls hf (lv_sub hl [0, 1, 2, 3, 4] rfl) hP hD hS
  unfold x8_rests at hf
  refine lv_aload_n hx hb dX8_rests_0 rfl (lv_at hl 0 rfl) ?_
  refine lv_iconst (v := (0 : Int32)) hx hb dX8_rests_1 (by decide) ?_
  refine va_put (D := (dC, dI)) (ci := 8) (v := .int (0 : Int32)) (ty := .int) (C := RX8) (T := TX8) (N := 33) hx hb hts hiX8 tyX8 tyX8_ok nmX8 hown hK hP hD hS 0 rfl rfl 0 (by decide) (hts (.fieldLink RX8 56 "GreenJarsModel" "thrown" "I") (by decide +kernel)) (fun _ h9 => h9) rfl (by decide +kernel) rfl rfl (Nat.le_of_ble_eq_true rfl) dX8_rests_2 (fun H locs hP hD hS => ?_)
  have hP : va_P (dC, dI) vwCl (w_X8_rests cI cZ cG o o_text o_kind o_size o_readJar o_page o_trial o_book o_kept o_isKept o_tastedFrom o_tastedTo o_order o_spots o_gains o_value (0 : Int32) v_textSize v_place v_jars v_readPlaces v_readJars v_acts v_tasted v_seed v_some v_rowMany v_rowWay v_stuffWhich v_stuffNear v_keptMany v_keptFirst v_restMany v_restFirst f_kind f_page f_trial f_gains) H := hP
  have hD : va_D A (w_X8_rests cI cZ cG o o_text o_kind o_size o_readJar o_page o_trial o_book o_kept o_isKept o_tastedFrom o_tastedTo o_order o_spots o_gains o_value (0 : Int32) v_textSize v_place v_jars v_readPlaces v_readJars v_acts v_tasted v_seed v_some v_rowMany v_rowWay v_stuffWhich v_stuffNear v_keptMany v_keptFirst v_restMany v_restFirst f_kind f_page f_trial f_gains) := hD
  refine lv_aload_n hx hb dX8_rests_5 rfl (lv_at hl 0 rfl) ?_
  refine lv_iload_n hx hb dX8_rests_6 rfl (lv_at hl 1 rfl) ?_
  obtain ⟨r32, hc33, hf⟩ := g_b1 hf
  refine g_rV (As := [.int a1]) (rest := []) ⟨hx, hb, hml, hown, hts⟩ (c_X8_noJar l dC dI cI cZ cG o o_text o_kind o_size o_readJar o_page o_trial o_book o_kept o_isKept o_tastedFrom o_tastedTo o_order o_spots o_gains o_value  (0 : Int32) v_textSize v_place v_jars v_readPlaces v_readJars v_acts v_tasted v_seed v_some v_rowMany v_rowWay v_stuffWhich v_stuffNear v_keptMany v_keptFirst v_restMany v_restFirst a1 hc33) (cwV 1 hts gX8_rests_X8_noJar rfl rfl rfl (by decide +kernel) ⟨Nat.le_of_ble_eq_true rfl, Nat.le_of_ble_eq_true rfl⟩) hK hN (hP.sub [0] rfl) (va_recv hK hP (ci := 8) (q0 := 0) rfl rfl) rfl hl.1 rfl (Nat.le_of_ble_eq_true rfl) dX8_rests_7 ⟨Nat.zero_le _, Nat.zero_le _⟩ ?_
  refine lv_if_ne (tgt := 21) hx hb dX8_rests_10 (by decide) (fun c34 => ?_) (fun c34 => ?_)
  · have hf := g_neg c34 hf
    refine lv_iconst (v := (-1 : Int32)) hx hb dX8_rests_21 (by decide) ?_
    rw [hQ]
    cases hf
    exact W.iret hx hb hr (fun t ht hW => ⟨⟨_, (), rfl, rfl, by rw [ht]; exact hP, va_K.moved hW.alike hK, hD⟩, hS.F ht⟩) hS.2.2 dX8_rests_22
  · have hf := g_pos c34 hf
    refine lv_aload_n hx hb dX8_rests_13 rfl (lv_at hl 0 rfl) ?_
    refine lv_iload_n hx hb dX8_rests_14 rfl (lv_at hl 2 rfl) ?_
    obtain ⟨r35, hc36, hf⟩ := g_b1 hf
    refine g_rV (As := [.int a2]) (rest := []) ⟨hx, hb, hml, hown, hts⟩ (c_X8_noJar l dC dI cI cZ cG o o_text o_kind o_size o_readJar o_page o_trial o_book o_kept o_isKept o_tastedFrom o_tastedTo o_order o_spots o_gains o_value  (0 : Int32) v_textSize v_place v_jars v_readPlaces v_readJars v_acts v_tasted v_seed v_some v_rowMany v_rowWay v_stuffWhich v_stuffNear v_keptMany v_keptFirst v_restMany v_restFirst a2 hc36) (cwV 1 hts gX8_rests_X8_noJar rfl rfl rfl (by decide +kernel) ⟨Nat.le_of_ble_eq_true rfl, Nat.le_of_ble_eq_true rfl⟩) hK hN (hP.sub [0] rfl) (va_recv hK hP (ci := 8) (q0 := 0) rfl rfl) rfl hl.1 rfl (Nat.le_of_ble_eq_true rfl) dX8_rests_15 ⟨Nat.zero_le _, Nat.zero_le _⟩ ?_
    refine lv_if_eq (tgt := 23) hx hb dX8_rests_18 (by decide) (fun c37 => ?_) (fun c37 => ?_)
    · have hf := g_pos c37 hf
      refine lv_iload_n hx hb dX8_rests_23 rfl (lv_at hl 1 rfl) ?_
      refine lv_iload_n hx hb dX8_rests_24 rfl (lv_at hl 2 rfl) ?_
      refine lv_icmp_eq (tgt := 38) hx hb dX8_rests_25 (by decide) (fun c38 => ?_) (fun c38 => ?_)
      · have hf := g_pos c38 hf
        refine lv_bipush (v := (-2 : Int32)) hx hb dX8_rests_38 (by decide +kernel) ?_
        rw [hQ]
        cases hf
        exact W.iret hx hb hr (fun t ht hW => ⟨⟨_, (), rfl, rfl, by rw [ht]; exact hP, va_K.moved hW.alike hK, hD⟩, hS.F ht⟩) hS.2.2 dX8_rests_40
      · have hf := g_neg c38 hf
        refine lv_iload_n hx hb dX8_rests_28 rfl (lv_at hl 3 rfl) ?_
        refine lv_i2l hx hb dX8_rests_29 rfl ?_
        refine lv_lconst (v := (0 : Int64)) hx hb dX8_rests_30 (by decide) ?_
        refine lv_lconst (v := (1 : Int64)) hx hb dX8_rests_31 (by decide) ?_
        obtain ⟨r39, hc40, hf⟩ := g_b1 hf
        refine g_rS (As := [.long a3.toInt64, .long (0 : Int64), .long (1 : Int64)]) (rest := []) ⟨hx, hb, hml, hown, hts⟩ (c_X8_in l dC dI cI cZ cG    a3.toInt64 (0 : Int64) (1 : Int64) hc40) (va_cwS 3 hts gX8_rests_X8_in rfl rfl rfl (by decide +kernel) ⟨Nat.le_of_ble_eq_true rfl, Nat.le_of_ble_eq_true rfl⟩) hK hN (hP.sub [] rfl) rfl hl.1 rfl (Nat.le_of_ble_eq_true rfl) dX8_rests_32 ⟨Nat.zero_le _, Nat.zero_le _⟩ ?_
        refine lv_if_ne (tgt := 41) hx hb dX8_rests_35 (by decide) (fun c41 => ?_) (fun c41 => ?_)
        · have hf := g_neg c41 hf
          refine lv_aload_n hx hb dX8_rests_41 rfl (lv_at hl 0 rfl) ?_
          refine va_get (D := (dC, dI)) (ci := 8) (v := .ref o_page) (C := RX8) (T := TX8) (N := 33) hx hb hts hiX8 hown hK hP 0 rfl rfl 10 (by decide) (hts (.fieldLink RX8 22 "GreenJarsModel" "page" "[I") (by decide +kernel)) (fun _ h9 => h9) rfl dX8_rests_42 ?_
          refine lv_iload_n hx hb dX8_rests_45 rfl (lv_at hl 1 rfl) ?_
          obtain ⟨r42, hc43, hf⟩ := g_b1 hf
          refine g_rS (As := [.ref o_page, .int a1]) (rest := []) ⟨hx, hb, hml, hown, hts⟩ (c_X8_isWhole l dC dI cI cZ cG o_page  f_page a1 hc43) (va_cwS 2 hts gX8_rests_X8_isWhole rfl rfl rfl (by decide +kernel) ⟨Nat.le_of_ble_eq_true rfl, Nat.le_of_ble_eq_true rfl⟩) hK hN (hP.sub [2] rfl) rfl hl.1 rfl (Nat.le_of_ble_eq_true rfl) dX8_rests_46 ⟨Nat.zero_le _, Nat.zero_le _⟩ ?_
          refine lv_if_eq (tgt := 63) hx hb dX8_rests_49 (by decide) (fun c44 => ?_) (fun c44 => ?_)
          · have hf := g_pos c44 hf
            refine lv_bipush (v := (-3 : Int32)) hx hb dX8_rests_63 (by decide +kernel) ?_
            rw [hQ]
            cases hf
            exact W.iret hx hb hr (fun t ht hW => ⟨⟨_, (), rfl, rfl, by rw [ht]; exact hP, va_K.moved hW.alike hK, hD⟩, hS.F ht⟩) hS.2.2 dX8_rests_65
          · have hf := g_neg c44 hf
            refine lv_aload_n hx hb dX8_rests_52 rfl (lv_at hl 0 rfl) ?_
            refine va_get (D := (dC, dI)) (ci := 8) (v := .ref o_page) (C := RX8) (T := TX8) (N := 33) hx hb hts hiX8 hown hK hP 0 rfl rfl 10 (by decide) (hts (.fieldLink RX8 22 "GreenJarsModel" "page" "[I") (by decide +kernel)) (fun _ h9 => h9) rfl dX8_rests_53 ?_
            refine lv_iload_n hx hb dX8_rests_56 rfl (lv_at hl 2 rfl) ?_
            obtain ⟨r45, hc46, hf⟩ := g_b1 hf
            refine g_rS (As := [.ref o_page, .int a2]) (rest := []) ⟨hx, hb, hml, hown, hts⟩ (c_X8_isWhole l dC dI cI cZ cG o_page  f_page a2 hc46) (va_cwS 2 hts gX8_rests_X8_isWhole rfl rfl rfl (by decide +kernel) ⟨Nat.le_of_ble_eq_true rfl, Nat.le_of_ble_eq_true rfl⟩) hK hN (hP.sub [2] rfl) rfl hl.1 rfl (Nat.le_of_ble_eq_true rfl) dX8_rests_57 ⟨Nat.zero_le _, Nat.zero_le _⟩ ?_
            refine lv_if_ne (tgt := 66) hx hb dX8_rests_60 (by decide) (fun c47 => ?_) (fun c47 => ?_)
            · have hf := g_neg c47 hf
              refine lv_iconst (v := (0 : Int32)) hx hb dX8_rests_66 (by decide) ?_
              refine lv_istore (lv' := [(4, .int (0 : Int32)), (0, .ref o), (1, .int a1), (2, .int a2), (3, .int a3)]) hx hb dX8_rests_67 hl (by decide) rfl (fun ls hl => ?_)
              exact L69 N (0 : Int32) (0 : Int32) v_some v_restMany v_restFirst f_trial f_gains H locs ls hf (lv_sub hl [1, 2, 3, 4, 0] rfl) hP hD hS
            · have hf := g_pos c47 hf
              refine lv_bipush (v := (-3 : Int32)) hx hb dX8_rests_63 (by decide +kernel) ?_
              rw [hQ]
              cases hf
              exact W.iret hx hb hr (fun t ht hW => ⟨⟨_, (), rfl, rfl, by rw [ht]; exact hP, va_K.moved hW.alike hK, hD⟩, hS.F ht⟩) hS.2.2 dX8_rests_65
        · have hf := g_pos c41 hf
          refine lv_bipush (v := (-2 : Int32)) hx hb dX8_rests_38 (by decide +kernel) ?_
          rw [hQ]
          cases hf
          exact W.iret hx hb hr (fun t ht hW => ⟨⟨_, (), rfl, rfl, by rw [ht]; exact hP, va_K.moved hW.alike hK, hD⟩, hS.F ht⟩) hS.2.2 dX8_rests_40
    · have hf := g_neg c37 hf
      refine lv_iconst (v := (-1 : Int32)) hx hb dX8_rests_21 (by decide) ?_
      rw [hQ]
      cases hf
      exact W.iret hx hb hr (fun t ht hW => ⟨⟨_, (), rfl, rfl, by rw [ht]; exact hP, va_K.moved hW.alike hK, hD⟩, hS.F ht⟩) hS.2.2 dX8_rests_22
abbrev rm_X8_papers : Room := { frames := 5, cells := 0, slots := 0, locals := 118 }
abbrev w_X8_papers (cI cZ cG : ClassId) (o : Nat) (o_text : Nat) (o_kind : Nat) (o_size : Nat) (o_readJar : Nat) (o_page : Nat) (o_trial : Nat) (o_book : Nat) (o_kept : Nat) (o_isKept : Nat) (o_tastedFrom : Nat) (o_tastedTo : Nat) (o_order : Nat) (o_spots : Nat) (o_gains : Nat) (o_value : Nat) (v_thrown : Int32) (v_textSize : Int32) (v_place : Int32) (v_jars : Int32) (v_readPlaces : Int32) (v_readJars : Int32) (v_acts : Int32) (v_tasted : Int32) (v_seed : Int64) (v_some : Int32) (v_rowMany : Int32) (v_rowWay : Int32) (v_stuffWhich : Int32) (v_stuffNear : Int32) (v_keptMany : Int32) (v_keptFirst : Int32) (v_restMany : Int32) (v_restFirst : Int32) (f_kind : Nat → Int32) (f_page : Nat → Int32) (f_trial : Nat → Int32) : va_W := [(o, .inr (8, [.int v_thrown, .ref o_text, .int v_textSize, .int v_place, .int v_jars, .ref o_kind, .ref o_size, .int v_readPlaces, .int v_readJars, .ref o_readJar, .ref o_page, .ref o_trial, .ref o_book, .int v_acts, .ref o_kept, .ref o_isKept, .int v_tasted, .ref o_tastedFrom, .ref o_tastedTo, .long v_seed, .int v_some, .ref o_order, .ref o_spots, .int v_rowMany, .int v_rowWay, .int v_stuffWhich, .int v_stuffNear, .int v_keptMany, .int v_keptFirst, .int v_restMany, .int v_restFirst, .ref o_gains, .ref o_value])), (o_kind, .inl (cI, 6, .inl f_kind)), (o_page, .inl (cI, 37, .inl f_page)), (o_trial, .inl (cI, 37, .inl f_trial))]
set_option maxHeartbeats 4000000 in
set_option maxRecDepth 100000 in
theorem c_X8_papers (l : Launch) (dC : Nat → ClassId) (dI : Nat → Nat → Nat) (cI cZ cG : ClassId) {N : Nat} (o : Nat) (o_text : Nat) (o_kind : Nat) (o_size : Nat) (o_readJar : Nat) (o_page : Nat) (o_trial : Nat) (o_book : Nat) (o_kept : Nat) (o_isKept : Nat) (o_tastedFrom : Nat) (o_tastedTo : Nat) (o_order : Nat) (o_spots : Nat) (o_gains : Nat) (o_value : Nat) (sz : Nat) (v_thrown : Int32) (v_textSize : Int32) (v_place : Int32) (v_jars : Int32) (v_readPlaces : Int32) (v_readJars : Int32) (v_acts : Int32) (v_tasted : Int32) (v_seed : Int64) (v_some : Int32) (v_rowMany : Int32) (v_rowWay : Int32) (v_stuffWhich : Int32) (v_stuffNear : Int32) (v_keptMany : Int32) (v_keptFirst : Int32) (v_restMany : Int32) (v_restFirst : Int32) (f_kind : Nat → Int32) (f_page : Nat → Int32) (f_trial : Nat → Int32) (a1 : Int32) (a2 : Int32) (a3 : Int32) {r0 : Int32} {n_thrown : Int32} {n_some : Int32} {n_trial : Nat → Int32} (hf : x8_papers N v_thrown v_jars v_some f_kind f_page f_trial a1 a2 a3 = some (r0, n_thrown, n_some, n_trial)) : Met l yX8_papers wsX8_papers rm_X8_papers (va_Pc [.ref o, .int a1, .int a2, .int a3] (gW (dC, dI) vwCl (gT cI cZ cG) (w_X8_papers cI cZ cG o o_text o_kind o_size o_readJar o_page o_trial o_book o_kept o_isKept o_tastedFrom o_tastedTo o_order o_spots o_gains o_value v_thrown v_textSize v_place v_jars v_readPlaces v_readJars v_acts v_tasted v_seed v_some v_rowMany v_rowWay v_stuffWhich v_stuffNear v_keptMany v_keptFirst v_restMany v_restFirst f_kind f_page f_trial) sz)) (va_Qi (fun r _ => r = r0) (gE (dC, dI) vwCl (gT cI cZ cG) (w_X8_papers cI cZ cG o o_text o_kind o_size o_readJar o_page o_trial o_book o_kept o_isKept o_tastedFrom o_tastedTo o_order o_spots o_gains o_value n_thrown v_textSize v_place v_jars v_readPlaces v_readJars v_acts v_tasted v_seed n_some v_rowMany v_rowWay v_stuffWhich v_stuffNear v_keptMany v_keptFirst v_restMany v_restFirst f_kind f_page n_trial) (va_A (w_X8_papers cI cZ cG o o_text o_kind o_size o_readJar o_page o_trial o_book o_kept o_isKept o_tastedFrom o_tastedTo o_order o_spots o_gains o_value v_thrown v_textSize v_place v_jars v_readPlaces v_readJars v_acts v_tasted v_seed v_some v_rowMany v_rowWay v_stuffWhich v_stuffNear v_keptMany v_keptFirst v_restMany v_restFirst f_kind f_page f_trial) sz)) (va_A (w_X8_papers cI cZ cG o o_text o_kind o_size o_readJar o_page o_trial o_book o_kept o_isKept o_tastedFrom o_tastedTo o_order o_spots o_gains o_value v_thrown v_textSize v_place v_jars v_readPlaces v_readJars v_acts v_tasted v_seed v_some v_rowMany v_rowWay v_stuffWhich v_stuffNear v_keptMany v_keptFirst v_restMany v_restFirst f_kind f_page f_trial) sz)) 0 0 (va_A (w_X8_papers cI cZ cG o o_text o_kind o_size o_readJar o_page o_trial o_book o_kept o_isKept o_tastedFrom o_tastedTo o_order o_spots o_gains o_value v_thrown v_textSize v_place v_jars v_readPlaces v_readJars v_acts v_tasted v_seed v_some v_rowMany v_rowWay v_stuffWhich v_stuffNear v_keptMany v_keptFirst v_restMany v_restFirst f_kind f_page f_trial) sz) := by
  refine Met.ofW (cc := cX8_papers) (maxL := 9) (ret := (some .int)) (by decide) rfl ?_
  intro p e s m args below meth c s₁ B hml hv
  obtain ⟨rfl, hv⟩ := hv
  obtain ⟨hsz, hP, hK, hN, hD0⟩ := hv
  have hx := B.exec
  have hb := B.bytes
  have hr := B.returns
  have hts := atoms_spec (ws := wsX8_papers) B.pre
  have hown : s.vm.findClass RX8 = some m.cls := findClass_of_methodNamed B.named
  have hlocks := B.notSynchronized
  have hiX8 : ∀ w ∈ u_ws RX8 TX8 33, w ∈ wsX8_papers := fun w h => List.mem_cons_of_mem _ (List.mem_append_right _ h)
  subst hsz
  have hD := hD0.self (sz := s.heap.size)
  generalize hAe : va_A (w_X8_papers cI cZ cG o o_text o_kind o_size o_readJar o_page o_trial o_book o_kept o_isKept o_tastedFrom o_tastedTo o_order o_spots o_gains o_value v_thrown v_textSize v_place v_jars v_readPlaces v_readJars v_acts v_tasted v_seed v_some v_rowMany v_rowWay v_stuffWhich v_stuffNear v_keptMany v_keptFirst v_restMany v_restFirst f_kind f_page f_trial) s.heap.size = A at hD ⊢
  have hA : ∀ q : Nat, s.heap.size ≤ q → A q := fun q h => by rw [← hAe]; exact Or.inr h
  clear hD0
  have hS : va_S A s.heap s.heap [] := va_S.rf
  have hP : va_P (dC, dI) vwCl (w_X8_papers cI cZ cG o o_text o_kind o_size o_readJar o_page o_trial o_book o_kept o_isKept o_tastedFrom o_tastedTo o_order o_spots o_gains o_value v_thrown v_textSize v_place v_jars v_readPlaces v_readJars v_acts v_tasted v_seed v_some v_rowMany v_rowWay v_stuffWhich v_stuffNear v_keptMany v_keptFirst v_restMany v_restFirst f_kind f_page f_trial) s.heap := hP
  obtain ⟨Q, hQ⟩ : ∃ Q : State → Prop, Q = MQ below (va_Qi (fun r _ => r = r0) (gE (dC, dI) vwCl (gT cI cZ cG) (w_X8_papers cI cZ cG o o_text o_kind o_size o_readJar o_page o_trial o_book o_kept o_isKept o_tastedFrom o_tastedTo o_order o_spots o_gains o_value n_thrown v_textSize v_place v_jars v_readPlaces v_readJars v_acts v_tasted v_seed n_some v_rowMany v_rowWay v_stuffWhich v_stuffNear v_keptMany v_keptFirst v_restMany v_restFirst f_kind f_page n_trial) A) A) (([Value.ref o, Value.int a1, Value.int a2, Value.int a3] : List Value).toArray) s 0 0 A := ⟨_, rfl⟩
  have hl := lv_entry ([.ref o, .int a1, .int a2, .int a3]) (n := 9) (Nat.le_of_ble_eq_true rfl)
  rw [← hQ, lg_entry_eq]
  generalize (lg_sl ([.ref o, .int a1, .int a2, .int a3]) ++ List.replicate (9 - (lg_sl ([.ref o, .int a1, .int a2, .int a3])).length) Slot.unset).toArray = ls at hl ⊢
  have hl : lv_has ls 9 [(0, .ref o), (1, .int a1), (2, .int a2), (3, .int a3)] := hl
  generalize hH : s.heap = H at hP hS ⊢
  have hS : va_S A s.heap H [] := by rw [hH]; exact hS
  generalize hlc : ([] : List Loc) = locs at hS ⊢
  show W p l e rm_X8_papers s m (([Value.ref o, Value.int a1, Value.int a2, Value.int a3] : List Value).toArray) below meth c H locs 0 0 Q (F0 m 0 ls [])
  have L56 : ∀ (n56 : Nat), ∀ (x4 : Int32) (x5 : Int32) (x6 : Int32) (x7 : Int32) (y_thrown : Int32) (y_some : Int32) (y_trial : Nat → Int32) (H : Heap) (locs : List Loc) (ls : Array Slot), x8_papers_b56 N v_jars f_kind f_page a1 a2 a3 n56 x4 x5 x6 x7 y_thrown y_some y_trial = some (r0, n_thrown, n_some, n_trial) → lv_has ls 9 [(0, .ref o), (1, .int a1), (2, .int a2), (3, .int a3), (4, .int x4), (5, .int x5), (6, .int x6), (7, .int x7)] → va_P (dC, dI) vwCl (w_X8_papers cI cZ cG o o_text o_kind o_size o_readJar o_page o_trial o_book o_kept o_isKept o_tastedFrom o_tastedTo o_order o_spots o_gains o_value y_thrown v_textSize v_place v_jars v_readPlaces v_readJars v_acts v_tasted v_seed y_some v_rowMany v_rowWay v_stuffWhich v_stuffNear v_keptMany v_keptFirst v_restMany v_restFirst f_kind f_page y_trial) H → va_D A (w_X8_papers cI cZ cG o o_text o_kind o_size o_readJar o_page o_trial o_book o_kept o_isKept o_tastedFrom o_tastedTo o_order o_spots o_gains o_value y_thrown v_textSize v_place v_jars v_readPlaces v_readJars v_acts v_tasted v_seed y_some v_rowMany v_rowWay v_stuffWhich v_stuffNear v_keptMany v_keptFirst v_restMany v_restFirst f_kind f_page y_trial) → va_S A s.heap H locs → W p l e rm_X8_papers s m (([Value.ref o, Value.int a1, Value.int a2, Value.int a3] : List Value).toArray) below meth c H locs 0 0 Q (F0 m 56 ls []) := by
    intro n56
    induction n56 with
    | zero =>
      intro x4 x5 x6 x7 y_thrown y_some y_trial H locs ls hf hl hP hD hS
      exact g_no hf
    | succ n56 ih56 =>
      have J177 : ∀ (x4 : Int32) (x5 : Int32) (x7 : Int32) (t0 : Int32) (t1 : Int32) (y_thrown : Int32) (y_some : Int32) (y_trial : Nat → Int32) (H : Heap) (locs : List Loc) (ls : Array Slot), x8_papers_b177 N v_jars f_kind f_page a1 a2 a3 (x8_papers_b56 N v_jars f_kind f_page a1 a2 a3 n56) x4 x5 x7 t0 t1 y_thrown y_some y_trial = some (r0, n_thrown, n_some, n_trial) → lv_has ls 9 [(0, .ref o), (1, .int a1), (2, .int a2), (3, .int a3), (4, .int x4), (5, .int x5), (7, .int x7)] → va_P (dC, dI) vwCl (w_X8_papers cI cZ cG o o_text o_kind o_size o_readJar o_page o_trial o_book o_kept o_isKept o_tastedFrom o_tastedTo o_order o_spots o_gains o_value y_thrown v_textSize v_place v_jars v_readPlaces v_readJars v_acts v_tasted v_seed y_some v_rowMany v_rowWay v_stuffWhich v_stuffNear v_keptMany v_keptFirst v_restMany v_restFirst f_kind f_page y_trial) H → va_D A (w_X8_papers cI cZ cG o o_text o_kind o_size o_readJar o_page o_trial o_book o_kept o_isKept o_tastedFrom o_tastedTo o_order o_spots o_gains o_value y_thrown v_textSize v_place v_jars v_readPlaces v_readJars v_acts v_tasted v_seed y_some v_rowMany v_rowWay v_stuffWhich v_stuffNear v_keptMany v_keptFirst v_restMany v_restFirst f_kind f_page y_trial) → va_S A s.heap H locs → W p l e rm_X8_papers s m (([Value.ref o, Value.int a1, Value.int a2, Value.int a3] : List Value).toArray) below meth c H locs 0 0 Q (F0 m 177 ls [.int t1, .int t0]) := by
        intro x4 x5 x7 t0 t1 y_thrown y_some y_trial H locs ls hf hl hP hD hS
        unfold x8_papers_b177 at hf
        refine lv_iadd hx hb dX8_papers_177 ?_
        refine lv_istore (lv' := [(6, .int (t0 + t1)), (0, .ref o), (1, .int a1), (2, .int a2), (3, .int a3), (4, .int x4), (5, .int x5), (7, .int x7)]) hx hb dX8_papers_178 hl (by decide) rfl (fun ls hl => ?_)
        refine lv_iinc (v := (x7 + (1 : Int32))) (lv' := [(7, .int (x7 + (1 : Int32))), (6, .int (t0 + t1)), (0, .ref o), (1, .int a1), (2, .int a2), (3, .int a3), (4, .int x4), (5, .int x5)]) hx hb dX8_papers_180 hl (k := 7) rfl rfl (by decide) rfl (fun ls hl => ?_)
        refine lv_goto (tgt := 56) hx hb dX8_papers_183 (by decide) ?_
        exact ih56 x4 x5 (t0 + t1) (x7 + (1 : Int32)) y_thrown y_some y_trial H locs ls hf (lv_sub hl [2, 3, 4, 5, 6, 7, 1, 0] rfl) hP hD hS
      have L84 : ∀ (n84 : Nat), ∀ (x4 : Int32) (x5 : Int32) (x6 : Int32) (x7 : Int32) (x8 : Int32) (y_thrown : Int32) (y_some : Int32) (y_trial : Nat → Int32) (H : Heap) (locs : List Loc) (ls : Array Slot), x8_papers_b84 N v_jars f_kind f_page a1 a2 a3 (x8_papers_b56 N v_jars f_kind f_page a1 a2 a3 n56) n84 x4 x5 x6 x7 x8 y_thrown y_some y_trial = some (r0, n_thrown, n_some, n_trial) → lv_has ls 9 [(0, .ref o), (1, .int a1), (2, .int a2), (3, .int a3), (4, .int x4), (5, .int x5), (6, .int x6), (7, .int x7), (8, .int x8)] → va_P (dC, dI) vwCl (w_X8_papers cI cZ cG o o_text o_kind o_size o_readJar o_page o_trial o_book o_kept o_isKept o_tastedFrom o_tastedTo o_order o_spots o_gains o_value y_thrown v_textSize v_place v_jars v_readPlaces v_readJars v_acts v_tasted v_seed y_some v_rowMany v_rowWay v_stuffWhich v_stuffNear v_keptMany v_keptFirst v_restMany v_restFirst f_kind f_page y_trial) H → va_D A (w_X8_papers cI cZ cG o o_text o_kind o_size o_readJar o_page o_trial o_book o_kept o_isKept o_tastedFrom o_tastedTo o_order o_spots o_gains o_value y_thrown v_textSize v_place v_jars v_readPlaces v_readJars v_acts v_tasted v_seed y_some v_rowMany v_rowWay v_stuffWhich v_stuffNear v_keptMany v_keptFirst v_restMany v_restFirst f_kind f_page y_trial) → va_S A s.heap H locs → W p l e rm_X8_papers s m (([Value.ref o, Value.int a1, Value.int a2, Value.int a3] : List Value).toArray) below meth c H locs 0 0 Q (F0 m 84 ls []) := by
        intro n84
        induction n84 with
        | zero =>
          intro x4 x5 x6 x7 x8 y_thrown y_some y_trial H locs ls hf hl hP hD hS
          exact g_no hf
        | succ n84 ih84 =>
          have J126 : ∀ (x4 : Int32) (x5 : Int32) (x6 : Int32) (x7 : Int32) (x8 : Int32) (t1 : Int32) (t2 : Int32) (y_thrown : Int32) (y_some : Int32) (y_trial : Nat → Int32) (H : Heap) (locs : List Loc) (ls : Array Slot), x8_papers_b126 N v_jars f_kind f_page a1 a2 a3 (x8_papers_b56 N v_jars f_kind f_page a1 a2 a3 n56) (x8_papers_b84 N v_jars f_kind f_page a1 a2 a3 (x8_papers_b56 N v_jars f_kind f_page a1 a2 a3 n56) n84) x4 x5 x6 x7 x8 t1 t2 y_thrown y_some y_trial = some (r0, n_thrown, n_some, n_trial) → lv_has ls 9 [(0, .ref o), (1, .int a1), (2, .int a2), (3, .int a3), (4, .int x4), (5, .int x5), (6, .int x6), (7, .int x7), (8, .int x8)] → va_P (dC, dI) vwCl (w_X8_papers cI cZ cG o o_text o_kind o_size o_readJar o_page o_trial o_book o_kept o_isKept o_tastedFrom o_tastedTo o_order o_spots o_gains o_value y_thrown v_textSize v_place v_jars v_readPlaces v_readJars v_acts v_tasted v_seed y_some v_rowMany v_rowWay v_stuffWhich v_stuffNear v_keptMany v_keptFirst v_restMany v_restFirst f_kind f_page y_trial) H → va_D A (w_X8_papers cI cZ cG o o_text o_kind o_size o_readJar o_page o_trial o_book o_kept o_isKept o_tastedFrom o_tastedTo o_order o_spots o_gains o_value y_thrown v_textSize v_place v_jars v_readPlaces v_readJars v_acts v_tasted v_seed y_some v_rowMany v_rowWay v_stuffWhich v_stuffNear v_keptMany v_keptFirst v_restMany v_restFirst f_kind f_page y_trial) → va_S A s.heap H locs → W p l e rm_X8_papers s m (([Value.ref o, Value.int a1, Value.int a2, Value.int a3] : List Value).toArray) below meth c H locs 0 0 Q (F0 m 126 ls [.int t2, .int t1, .ref o_trial]) := by
            intro x4 x5 x6 x7 x8 t1 t2 y_thrown y_some y_trial H locs ls hf hl hP hD hS
            unfold x8_papers_b126 at hf
            obtain ⟨h1, hf⟩ := g_chk hf
            refine va_iast hx hb hK hP hD hS 3 0 rfl rfl (gIn_vp h1) dX8_papers_126 (fun H locs hP hD hS => ?_)
            have hP : va_P (dC, dI) vwCl (w_X8_papers cI cZ cG o o_text o_kind o_size o_readJar o_page o_trial o_book o_kept o_isKept o_tastedFrom o_tastedTo o_order o_spots o_gains o_value y_thrown v_textSize v_place v_jars v_readPlaces v_readJars v_acts v_tasted v_seed y_some v_rowMany v_rowWay v_stuffWhich v_stuffNear v_keptMany v_keptFirst v_restMany v_restFirst f_kind f_page (upd y_trial t1.toNatClampNeg t2)) H := hP
            have hD : va_D A (w_X8_papers cI cZ cG o o_text o_kind o_size o_readJar o_page o_trial o_book o_kept o_isKept o_tastedFrom o_tastedTo o_order o_spots o_gains o_value y_thrown v_textSize v_place v_jars v_readPlaces v_readJars v_acts v_tasted v_seed y_some v_rowMany v_rowWay v_stuffWhich v_stuffNear v_keptMany v_keptFirst v_restMany v_restFirst f_kind f_page (upd y_trial t1.toNatClampNeg t2)) := hD
            refine lv_iinc (v := (x8 + (1 : Int32))) (lv' := [(8, .int (x8 + (1 : Int32))), (0, .ref o), (1, .int a1), (2, .int a2), (3, .int a3), (4, .int x4), (5, .int x5), (6, .int x6), (7, .int x7)]) hx hb dX8_papers_127 hl (k := 8) rfl rfl (by decide) rfl (fun ls hl => ?_)
            refine lv_goto (tgt := 84) hx hb dX8_papers_130 (by decide) ?_
            exact ih84 x4 x5 x6 x7 (x8 + (1 : Int32)) y_thrown y_some (upd y_trial t1.toNatClampNeg t2) H locs ls hf (lv_sub hl [1, 2, 3, 4, 5, 6, 7, 8, 0] rfl) hP hD hS
          intro x4 x5 x6 x7 x8 y_thrown y_some y_trial H locs ls hf hl hP hD hS
          unfold x8_papers_b84 at hf
          refine lv_iload hx hb dX8_papers_84 (lv_at hl 8 rfl) ?_
          refine lv_aload_n hx hb dX8_papers_86 rfl (lv_at hl 0 rfl) ?_
          refine va_get (D := (dC, dI)) (ci := 8) (v := .int v_jars) (C := RX8) (T := TX8) (N := 33) hx hb hts hiX8 hown hK hP 0 rfl rfl 4 (by decide) (hts (.fieldLink RX8 60 "GreenJarsModel" "jars" "I") (by decide +kernel)) (fun _ h9 => h9) rfl dX8_papers_87 ?_
          refine lv_icmp_ge (tgt := 133) hx hb dX8_papers_90 (by decide) (fun c2 => ?_) (fun c2 => ?_)
          · have hf := g_pos c2 hf
            refine lv_iload hx hb dX8_papers_133 (lv_at hl 7 rfl) ?_
            obtain ⟨r3, hc4, hf⟩ := g_b1 hf
            refine g_rS (As := [.int x7]) (rest := []) ⟨hx, hb, hml, hown, hts⟩ (c_X8_many l dC dI cI cZ cG    x7 hc4) (va_cwS 1 hts gX8_papers_X8_many rfl rfl rfl (by decide +kernel) ⟨Nat.le_of_ble_eq_true rfl, Nat.le_of_ble_eq_true rfl⟩) hK hN (hP.sub [] rfl) rfl hl.1 rfl (Nat.le_of_ble_eq_true rfl) dX8_papers_135 ⟨Nat.zero_le _, Nat.zero_le _⟩ ?_
            refine lv_istore (lv' := [(8, .int r3), (0, .ref o), (1, .int a1), (2, .int a2), (3, .int a3), (4, .int x4), (5, .int x5), (6, .int x6), (7, .int x7)]) hx hb dX8_papers_138 hl (by decide) rfl (fun ls hl => ?_)
            refine lv_iload hx hb dX8_papers_140 (lv_at hl 7 rfl) ?_
            refine lv_aload_n hx hb dX8_papers_142 rfl (lv_at hl 1 rfl) ?_
            refine lv_aload_n hx hb dX8_papers_143 rfl (lv_at hl 1 rfl) ?_
            refine va_get (D := (dC, dI)) (ci := 8) (v := .ref o_trial) (C := RX8) (T := TX8) (N := 33) hx hb hts hiX8 hown hK hP 0 rfl rfl 11 (by decide) (hts (.fieldLink RX8 25 "GreenJarsModel" "trial" "[I") (by decide +kernel)) (fun _ h9 => h9) rfl dX8_papers_144 ?_
            obtain ⟨r5, hc6, hf⟩ := g_b1 hf
            refine g_rV (As := [.ref o_trial]) (rest := [.int x6]) ⟨hx, hb, hml, hown, hts⟩ (c_X8_pairsOf l dC dI cI cZ cG o o_text o_kind o_size o_readJar o_page o_trial o_book o_kept o_isKept o_tastedFrom o_tastedTo o_order o_spots o_gains o_value o_trial  y_thrown v_textSize v_place v_jars v_readPlaces v_readJars v_acts v_tasted v_seed y_some v_rowMany v_rowWay v_stuffWhich v_stuffNear v_keptMany v_keptFirst v_restMany v_restFirst f_kind y_trial hc6) (cwV 1 hts gX8_papers_X8_pairsOf rfl rfl rfl (by decide +kernel) ⟨Nat.le_of_ble_eq_true rfl, Nat.le_of_ble_eq_true rfl⟩) hK hN (hP.sub [0, 1, 3] rfl) (va_recv hK hP (ci := 8) (q0 := 0) rfl rfl) rfl hl.1 rfl (Nat.le_of_ble_eq_true rfl) dX8_papers_147 ⟨Nat.zero_le _, Nat.zero_le _⟩ ?_
            refine lv_iload_n hx hb dX8_papers_150 rfl (lv_at hl 2 rfl) ?_
            refine lv_icmp_lt (tgt := 176) hx hb dX8_papers_151 (by decide) (fun c7 => ?_) (fun c7 => ?_)
            · have hf := g_pos c7 hf
              refine lv_iconst (v := (0 : Int32)) hx hb dX8_papers_176 (by decide) ?_
              exact J177 x4 x5 x7 x6 (0 : Int32) y_thrown y_some y_trial H locs ls hf (lv_sub hl [1, 2, 3, 4, 5, 6, 8] rfl) hP hD hS
            · have hf := g_neg c7 hf
              refine lv_iload_n hx hb dX8_papers_154 rfl (lv_at hl 3 rfl) ?_
              refine lv_iload hx hb dX8_papers_155 (lv_at hl 0 rfl) ?_
              obtain ⟨r8, hc9, hf⟩ := g_b1 hf
              refine g_rS (As := [.int a2, .int r3]) (rest := [.int x6]) ⟨hx, hb, hml, hown, hts⟩ (c_X8_power l dC dI cI cZ cG    a2 r3 hc9) (va_cwS 2 hts gX8_papers_X8_power rfl rfl rfl (by decide +kernel) ⟨Nat.le_of_ble_eq_true rfl, Nat.le_of_ble_eq_true rfl⟩) hK hN (hP.sub [] rfl) rfl hl.1 rfl (Nat.le_of_ble_eq_true rfl) dX8_papers_157 ⟨Nat.zero_le _, Nat.zero_le _⟩ ?_
              refine lv_bipush (v := (10 : Int32)) hx hb dX8_papers_160 (by decide +kernel) ?_
              refine lv_iload_n hx hb dX8_papers_162 rfl (lv_at hl 3 rfl) ?_
              refine lv_isub hx hb dX8_papers_163 ?_
              refine lv_iload hx hb dX8_papers_164 (lv_at hl 6 rfl) ?_
              refine lv_iload hx hb dX8_papers_166 (lv_at hl 0 rfl) ?_
              refine lv_isub hx hb dX8_papers_168 ?_
              obtain ⟨r10, hc11, hf⟩ := g_b1 hf
              refine g_rS (As := [.int ((10 : Int32) - a2), .int (x5 - r3)]) (rest := [.int r8, .int x6]) ⟨hx, hb, hml, hown, hts⟩ (c_X8_power l dC dI cI cZ cG    ((10 : Int32) - a2) (x5 - r3) hc11) (va_cwS 2 hts gX8_papers_X8_power rfl rfl rfl (by decide +kernel) ⟨Nat.le_of_ble_eq_true rfl, Nat.le_of_ble_eq_true rfl⟩) hK hN (hP.sub [] rfl) rfl hl.1 rfl (Nat.le_of_ble_eq_true rfl) dX8_papers_169 ⟨Nat.zero_le _, Nat.zero_le _⟩ ?_
              refine lv_imul hx hb dX8_papers_172 ?_
              refine lv_goto (tgt := 177) hx hb dX8_papers_173 (by decide) ?_
              exact J177 x4 x5 x7 x6 (r8 * r10) y_thrown y_some y_trial H locs ls hf (lv_sub hl [1, 2, 3, 4, 5, 6, 8] rfl) hP hD hS
          · have hf := g_neg c2 hf
            refine lv_aload_n hx hb dX8_papers_93 rfl (lv_at hl 0 rfl) ?_
            refine va_get (D := (dC, dI)) (ci := 8) (v := .ref o_trial) (C := RX8) (T := TX8) (N := 33) hx hb hts hiX8 hown hK hP 0 rfl rfl 11 (by decide) (hts (.fieldLink RX8 25 "GreenJarsModel" "trial" "[I") (by decide +kernel)) (fun _ h9 => h9) rfl dX8_papers_94 ?_
            refine lv_bipush (v := (30 : Int32)) hx hb dX8_papers_97 (by decide +kernel) ?_
            refine lv_iload hx hb dX8_papers_99 (lv_at hl 8 rfl) ?_
            refine lv_iadd hx hb dX8_papers_101 ?_
            refine lv_iload hx hb dX8_papers_102 (lv_at hl 7 rfl) ?_
            refine lv_iload hx hb dX8_papers_104 (lv_at hl 8 rfl) ?_
            obtain ⟨r12, hc13, hf⟩ := g_b1 hf
            refine g_rS (As := [.int x7, .int x8]) (rest := [.int ((30 : Int32) + x8), .ref o_trial]) ⟨hx, hb, hml, hown, hts⟩ (c_X8_has l dC dI cI cZ cG    x7 x8 hc13) (va_cwS 2 hts gX8_papers_X8_has rfl rfl rfl (by decide +kernel) ⟨Nat.le_of_ble_eq_true rfl, Nat.le_of_ble_eq_true rfl⟩) hK hN (hP.sub [] rfl) rfl hl.1 rfl (Nat.le_of_ble_eq_true rfl) dX8_papers_106 ⟨Nat.zero_le _, Nat.zero_le _⟩ ?_
            refine lv_if_eq (tgt := 116) hx hb dX8_papers_109 (by decide) (fun c14 => ?_) (fun c14 => ?_)
            · have hf := g_pos c14 hf
              refine lv_aload_n hx hb dX8_papers_116 rfl (lv_at hl 0 rfl) ?_
              refine va_get (D := (dC, dI)) (ci := 8) (v := .ref o_trial) (C := RX8) (T := TX8) (N := 33) hx hb hts hiX8 hown hK hP 0 rfl rfl 11 (by decide) (hts (.fieldLink RX8 25 "GreenJarsModel" "trial" "[I") (by decide +kernel)) (fun _ h9 => h9) rfl dX8_papers_117 ?_
              refine lv_bipush (v := (30 : Int32)) hx hb dX8_papers_120 (by decide +kernel) ?_
              refine lv_iload hx hb dX8_papers_122 (lv_at hl 8 rfl) ?_
              refine lv_iadd hx hb dX8_papers_124 ?_
              obtain ⟨h15, hf⟩ := g_chk hf
              refine va_iald hx hb hK hP 3 0 rfl rfl (gIn_vp h15) dX8_papers_125 ?_
              exact J126 x4 x5 x6 x7 x8 ((30 : Int32) + x8) (y_trial ((30 : Int32) + x8).toNatClampNeg) y_thrown y_some y_trial H locs ls hf (lv_sub hl [0, 1, 2, 3, 4, 5, 6, 7, 8] rfl) hP hD hS
            · have hf := g_neg c14 hf
              refine lv_iconst (v := (2 : Int32)) hx hb dX8_papers_112 (by decide) ?_
              refine lv_goto (tgt := 126) hx hb dX8_papers_113 (by decide) ?_
              exact J126 x4 x5 x6 x7 x8 ((30 : Int32) + x8) (2 : Int32) y_thrown y_some y_trial H locs ls hf (lv_sub hl [0, 1, 2, 3, 4, 5, 6, 7, 8] rfl) hP hD hS
      intro x4 x5 x6 x7 y_thrown y_some y_trial H locs ls hf hl hP hD hS
      unfold x8_papers_b56 at hf
      refine lv_iload hx hb dX8_papers_56 (lv_at hl 7 rfl) ?_
      refine lv_iconst (v := (1 : Int32)) hx hb dX8_papers_58 (by decide) ?_
      refine lv_aload_n hx hb dX8_papers_59 rfl (lv_at hl 0 rfl) ?_
      refine va_get (D := (dC, dI)) (ci := 8) (v := .int v_jars) (C := RX8) (T := TX8) (N := 33) hx hb hts hiX8 hown hK hP 0 rfl rfl 4 (by decide) (hts (.fieldLink RX8 60 "GreenJarsModel" "jars" "I") (by decide +kernel)) (fun _ h9 => h9) rfl dX8_papers_60 ?_
      refine lv_ishl hx hb dX8_papers_63 ?_
      refine lv_icmp_ge (tgt := 186) hx hb dX8_papers_64 (by decide) (fun c16 => ?_) (fun c16 => ?_)
      · have hf := g_pos c16 hf
        refine lv_iload hx hb dX8_papers_186 (lv_at hl 6 rfl) ?_
        refine lv_bipush (v := (10 : Int32)) hx hb dX8_papers_188 (by decide +kernel) ?_
        refine lv_iload hx hb dX8_papers_190 (lv_at hl 5 rfl) ?_
        obtain ⟨r17, hc18, hf⟩ := g_b1 hf
        refine g_rS (As := [.int (10 : Int32), .int x5]) (rest := [.int x6]) ⟨hx, hb, hml, hown, hts⟩ (c_X8_power l dC dI cI cZ cG    (10 : Int32) x5 hc18) (va_cwS 2 hts gX8_papers_X8_power rfl rfl rfl (by decide +kernel) ⟨Nat.le_of_ble_eq_true rfl, Nat.le_of_ble_eq_true rfl⟩) hK hN (hP.sub [] rfl) rfl hl.1 rfl (Nat.le_of_ble_eq_true rfl) dX8_papers_192 ⟨Nat.zero_le _, Nat.zero_le _⟩ ?_
        refine lv_iload_n hx hb dX8_papers_195 rfl (lv_at hl 3 rfl) ?_
        obtain ⟨r19, hc20, hf⟩ := g_b1 hf
        refine g_rS (As := [.int x6, .int r17, .int a3]) (rest := []) ⟨hx, hb, hml, hown, hts⟩ (c_X8_fraction l dC dI cI cZ cG    x6 r17 a3 hc20) (va_cwS 3 hts gX8_papers_X8_fraction rfl rfl rfl (by decide +kernel) ⟨Nat.le_of_ble_eq_true rfl, Nat.le_of_ble_eq_true rfl⟩) hK hN (hP.sub [] rfl) rfl hl.1 rfl (Nat.le_of_ble_eq_true rfl) dX8_papers_196 ⟨Nat.zero_le _, Nat.zero_le _⟩ ?_
        rw [hQ]
        cases hf
        exact W.iret hx hb hr (fun t ht hW => ⟨⟨_, (), rfl, rfl, by rw [ht]; exact hP, va_K.moved hW.alike hK, hD⟩, hS.F ht⟩) hS.2.2 dX8_papers_199
      · have hf := g_neg c16 hf
        refine lv_iload hx hb dX8_papers_67 (lv_at hl 7 rfl) ?_
        refine lv_iload hx hb dX8_papers_69 (lv_at hl 4 rfl) ?_
        refine lv_iconst (v := (-1 : Int32)) hx hb dX8_papers_71 (by decide) ?_
        refine lv_ixor hx hb dX8_papers_72 ?_
        refine lv_iand hx hb dX8_papers_73 ?_
        refine lv_if_ne (tgt := 180) hx hb dX8_papers_74 (by decide) (fun c21 => ?_) (fun c21 => ?_)
        · have hf := g_neg c21 hf
          refine lv_iinc (v := (x7 + (1 : Int32))) (lv' := [(7, .int (x7 + (1 : Int32))), (0, .ref o), (1, .int a1), (2, .int a2), (3, .int a3), (4, .int x4), (5, .int x5), (6, .int x6)]) hx hb dX8_papers_180 hl (k := 7) rfl rfl (by decide) rfl (fun ls hl => ?_)
          refine lv_goto (tgt := 56) hx hb dX8_papers_183 (by decide) ?_
          exact ih56 x4 x5 x6 (x7 + (1 : Int32)) y_thrown y_some y_trial H locs ls hf (lv_sub hl [1, 2, 3, 4, 5, 6, 7, 0] rfl) hP hD hS
        · have hf := g_pos c21 hf
          refine lv_aload_n hx hb dX8_papers_77 rfl (lv_at hl 0 rfl) ?_
          obtain ⟨y22, y23, hc24, hf⟩ := g_b2 hf
          refine g_wVv (As := []) (rest := []) (wr := [(o_kind, .inl (cI, 6, .inl f_kind))]) (wn := (w_X8_papers cI cZ cG o o_text o_kind o_size o_readJar o_page o_trial o_book o_kept o_isKept o_tastedFrom o_tastedTo o_order o_spots o_gains o_value y_thrown v_textSize v_place v_jars v_readPlaces v_readJars v_acts v_tasted v_seed y22 v_rowMany v_rowWay v_stuffWhich v_stuffNear v_keptMany v_keptFirst v_restMany v_restFirst f_kind f_page y23)) ⟨hx, hb, hml, hown, hts⟩ (c_X8_begin l dC dI cI cZ cG o o_text o_kind o_size o_readJar o_page o_trial o_book o_kept o_isKept o_tastedFrom o_tastedTo o_order o_spots o_gains o_value H.size  y_thrown v_textSize v_place v_jars v_readPlaces v_readJars v_acts v_tasted v_seed y_some v_rowMany v_rowWay v_stuffWhich v_stuffNear v_keptMany v_keptFirst v_restMany v_restFirst f_page y_trial hc24) (cwV 0 hts gX8_papers_X8_begin rfl rfl rfl (by decide +kernel) ⟨Nat.le_of_ble_eq_true rfl, Nat.le_of_ble_eq_true rfl⟩) hK hN hP hD hS hA [0, 2, 3] [1] [1, 0, 2, 3] rfl rfl (by decide) rfl (by decide) (by decide) rfl (by decide) (va_recv hK hP (ci := 8) (q0 := 0) rfl rfl) rfl hl.1 rfl (Nat.le_of_ble_eq_true rfl) dX8_papers_78 ⟨Nat.zero_le _, Nat.zero_le _⟩ (fun H locs hP hD hS => ?_)
          refine lv_iconst (v := (0 : Int32)) hx hb dX8_papers_81 (by decide) ?_
          refine lv_istore (lv' := [(8, .int (0 : Int32)), (0, .ref o), (1, .int a1), (2, .int a2), (3, .int a3), (4, .int x4), (5, .int x5), (6, .int x6), (7, .int x7)]) hx hb dX8_papers_82 hl (by decide) rfl (fun ls hl => ?_)
          exact L84 N x4 x5 x6 x7 (0 : Int32) y_thrown y22 y23 H locs ls hf (lv_sub hl [1, 2, 3, 4, 5, 6, 7, 8, 0] rfl) hP hD hS
  unfold x8_papers at hf
  refine lv_aload_n hx hb dX8_papers_0 rfl (lv_at hl 0 rfl) ?_
  refine lv_iconst (v := (0 : Int32)) hx hb dX8_papers_1 (by decide) ?_
  refine va_put (D := (dC, dI)) (ci := 8) (v := .int (0 : Int32)) (ty := .int) (C := RX8) (T := TX8) (N := 33) hx hb hts hiX8 tyX8 tyX8_ok nmX8 hown hK hP hD hS 0 rfl rfl 0 (by decide) (hts (.fieldLink RX8 56 "GreenJarsModel" "thrown" "I") (by decide +kernel)) (fun _ h9 => h9) rfl (by decide +kernel) rfl rfl (Nat.le_of_ble_eq_true rfl) dX8_papers_2 (fun H locs hP hD hS => ?_)
  have hP : va_P (dC, dI) vwCl (w_X8_papers cI cZ cG o o_text o_kind o_size o_readJar o_page o_trial o_book o_kept o_isKept o_tastedFrom o_tastedTo o_order o_spots o_gains o_value (0 : Int32) v_textSize v_place v_jars v_readPlaces v_readJars v_acts v_tasted v_seed v_some v_rowMany v_rowWay v_stuffWhich v_stuffNear v_keptMany v_keptFirst v_restMany v_restFirst f_kind f_page f_trial) H := hP
  have hD : va_D A (w_X8_papers cI cZ cG o o_text o_kind o_size o_readJar o_page o_trial o_book o_kept o_isKept o_tastedFrom o_tastedTo o_order o_spots o_gains o_value (0 : Int32) v_textSize v_place v_jars v_readPlaces v_readJars v_acts v_tasted v_seed v_some v_rowMany v_rowWay v_stuffWhich v_stuffNear v_keptMany v_keptFirst v_restMany v_restFirst f_kind f_page f_trial) := hD
  refine lv_iload_n hx hb dX8_papers_5 rfl (lv_at hl 1 rfl) ?_
  refine lv_i2l hx hb dX8_papers_6 rfl ?_
  refine lv_lconst (v := (0 : Int64)) hx hb dX8_papers_7 (by decide) ?_
  refine lv_ldc2 (v := (3 : Int64)) hx hb hown (hts (.constantLong RX8 159 (3 : Int64)) (by decide +kernel)) dX8_papers_8 ?_
  obtain ⟨r25, hc26, hf⟩ := g_b1 hf
  refine g_rS (As := [.long a1.toInt64, .long (0 : Int64), .long (3 : Int64)]) (rest := []) ⟨hx, hb, hml, hown, hts⟩ (c_X8_in l dC dI cI cZ cG    a1.toInt64 (0 : Int64) (3 : Int64) hc26) (va_cwS 3 hts gX8_papers_X8_in rfl rfl rfl (by decide +kernel) ⟨Nat.le_of_ble_eq_true rfl, Nat.le_of_ble_eq_true rfl⟩) hK hN (hP.sub [] rfl) rfl hl.1 rfl (Nat.le_of_ble_eq_true rfl) dX8_papers_11 ⟨Nat.zero_le _, Nat.zero_le _⟩ ?_
  refine lv_if_eq (tgt := 29) hx hb dX8_papers_14 (by decide) (fun c27 => ?_) (fun c27 => ?_)
  · have hf := g_pos c27 hf
    refine lv_bipush (v := (-2 : Int32)) hx hb dX8_papers_29 (by decide +kernel) ?_
    rw [hQ]
    cases hf
    exact W.iret hx hb hr (fun t ht hW => ⟨⟨_, (), rfl, rfl, by rw [ht]; exact hP, va_K.moved hW.alike hK, hD⟩, hS.F ht⟩) hS.2.2 dX8_papers_31
  · have hf := g_neg c27 hf
    refine lv_iload_n hx hb dX8_papers_17 rfl (lv_at hl 2 rfl) ?_
    refine lv_i2l hx hb dX8_papers_18 rfl ?_
    refine lv_lconst (v := (0 : Int64)) hx hb dX8_papers_19 (by decide) ?_
    refine lv_ldc2 (v := (10 : Int64)) hx hb hown (hts (.constantLong RX8 254 (10 : Int64)) (by decide +kernel)) dX8_papers_20 ?_
    obtain ⟨r28, hc29, hf⟩ := g_b1 hf
    refine g_rS (As := [.long a2.toInt64, .long (0 : Int64), .long (10 : Int64)]) (rest := []) ⟨hx, hb, hml, hown, hts⟩ (c_X8_in l dC dI cI cZ cG    a2.toInt64 (0 : Int64) (10 : Int64) hc29) (va_cwS 3 hts gX8_papers_X8_in rfl rfl rfl (by decide +kernel) ⟨Nat.le_of_ble_eq_true rfl, Nat.le_of_ble_eq_true rfl⟩) hK hN (hP.sub [] rfl) rfl hl.1 rfl (Nat.le_of_ble_eq_true rfl) dX8_papers_23 ⟨Nat.zero_le _, Nat.zero_le _⟩ ?_
    refine lv_if_ne (tgt := 32) hx hb dX8_papers_26 (by decide) (fun c30 => ?_) (fun c30 => ?_)
    · have hf := g_neg c30 hf
      refine lv_aload_n hx hb dX8_papers_32 rfl (lv_at hl 0 rfl) ?_
      refine lv_aload_n hx hb dX8_papers_33 rfl (lv_at hl 0 rfl) ?_
      refine va_get (D := (dC, dI)) (ci := 8) (v := .ref o_page) (C := RX8) (T := TX8) (N := 33) hx hb hts hiX8 hown hK hP 0 rfl rfl 10 (by decide) (hts (.fieldLink RX8 22 "GreenJarsModel" "page" "[I") (by decide +kernel)) (fun _ h9 => h9) rfl dX8_papers_34 ?_
      refine lv_iconst (v := (0 : Int32)) hx hb dX8_papers_37 (by decide) ?_
      obtain ⟨r31, hc32, hf⟩ := g_b1 hf
      refine g_rV (As := [.ref o_page, .int (0 : Int32)]) (rest := []) ⟨hx, hb, hml, hown, hts⟩ (c_X8_thatAre l dC dI cI cZ cG o o_text o_kind o_size o_readJar o_page o_trial o_book o_kept o_isKept o_tastedFrom o_tastedTo o_order o_spots o_gains o_value o_page  (0 : Int32) v_textSize v_place v_jars v_readPlaces v_readJars v_acts v_tasted v_seed v_some v_rowMany v_rowWay v_stuffWhich v_stuffNear v_keptMany v_keptFirst v_restMany v_restFirst f_page (0 : Int32) hc32) (cwV 2 hts gX8_papers_X8_thatAre rfl rfl rfl (by decide +kernel) ⟨Nat.le_of_ble_eq_true rfl, Nat.le_of_ble_eq_true rfl⟩) hK hN (hP.sub [0, 2] rfl) (va_recv hK hP (ci := 8) (q0 := 0) rfl rfl) rfl hl.1 rfl (Nat.le_of_ble_eq_true rfl) dX8_papers_38 ⟨Nat.zero_le _, Nat.zero_le _⟩ ?_
      refine lv_istore (lv' := [(4, .int r31), (0, .ref o), (1, .int a1), (2, .int a2), (3, .int a3)]) hx hb dX8_papers_41 hl (by decide) rfl (fun ls hl => ?_)
      refine lv_iload hx hb dX8_papers_43 (lv_at hl 0 rfl) ?_
      obtain ⟨r33, hc34, hf⟩ := g_b1 hf
      refine g_rS (As := [.int r31]) (rest := []) ⟨hx, hb, hml, hown, hts⟩ (c_X8_many l dC dI cI cZ cG    r31 hc34) (va_cwS 1 hts gX8_papers_X8_many rfl rfl rfl (by decide +kernel) ⟨Nat.le_of_ble_eq_true rfl, Nat.le_of_ble_eq_true rfl⟩) hK hN (hP.sub [] rfl) rfl hl.1 rfl (Nat.le_of_ble_eq_true rfl) dX8_papers_45 ⟨Nat.zero_le _, Nat.zero_le _⟩ ?_
      refine lv_istore (lv' := [(5, .int r33), (4, .int r31), (0, .ref o), (1, .int a1), (2, .int a2), (3, .int a3)]) hx hb dX8_papers_48 hl (by decide) rfl (fun ls hl => ?_)
      refine lv_iconst (v := (0 : Int32)) hx hb dX8_papers_50 (by decide) ?_
      refine lv_istore (lv' := [(6, .int (0 : Int32)), (5, .int r33), (4, .int r31), (0, .ref o), (1, .int a1), (2, .int a2), (3, .int a3)]) hx hb dX8_papers_51 hl (by decide) rfl (fun ls hl => ?_)
      refine lv_iconst (v := (0 : Int32)) hx hb dX8_papers_53 (by decide) ?_
      refine lv_istore (lv' := [(7, .int (0 : Int32)), (6, .int (0 : Int32)), (5, .int r33), (4, .int r31), (0, .ref o), (1, .int a1), (2, .int a2), (3, .int a3)]) hx hb dX8_papers_54 hl (by decide) rfl (fun ls hl => ?_)
      exact L56 N r31 r33 (0 : Int32) (0 : Int32) (0 : Int32) v_some f_trial H locs ls hf (lv_sub hl [4, 5, 6, 7, 3, 2, 1, 0] rfl) hP hD hS
    · have hf := g_pos c30 hf
      refine lv_bipush (v := (-2 : Int32)) hx hb dX8_papers_29 (by decide +kernel) ?_
      rw [hQ]
      cases hf
      exact W.iret hx hb hr (fun t ht hW => ⟨⟨_, (), rfl, rfl, by rw [ht]; exact hP, va_K.moved hW.alike hK, hD⟩, hS.F ht⟩) hS.2.2 dX8_papers_31
abbrev rm_X8_seed : Room := { frames := 0, cells := 0, slots := 0, locals := 0 }
abbrev w_X8_seed (cI cZ cG : ClassId) (o : Nat) (o_text : Nat) (o_kind : Nat) (o_size : Nat) (o_readJar : Nat) (o_page : Nat) (o_trial : Nat) (o_book : Nat) (o_kept : Nat) (o_isKept : Nat) (o_tastedFrom : Nat) (o_tastedTo : Nat) (o_order : Nat) (o_spots : Nat) (o_gains : Nat) (o_value : Nat) (v_thrown : Int32) (v_textSize : Int32) (v_place : Int32) (v_jars : Int32) (v_readPlaces : Int32) (v_readJars : Int32) (v_acts : Int32) (v_tasted : Int32) (v_seed : Int64) (v_some : Int32) (v_rowMany : Int32) (v_rowWay : Int32) (v_stuffWhich : Int32) (v_stuffNear : Int32) (v_keptMany : Int32) (v_keptFirst : Int32) (v_restMany : Int32) (v_restFirst : Int32) : va_W := [(o, .inr (8, [.int v_thrown, .ref o_text, .int v_textSize, .int v_place, .int v_jars, .ref o_kind, .ref o_size, .int v_readPlaces, .int v_readJars, .ref o_readJar, .ref o_page, .ref o_trial, .ref o_book, .int v_acts, .ref o_kept, .ref o_isKept, .int v_tasted, .ref o_tastedFrom, .ref o_tastedTo, .long v_seed, .int v_some, .ref o_order, .ref o_spots, .int v_rowMany, .int v_rowWay, .int v_stuffWhich, .int v_stuffNear, .int v_keptMany, .int v_keptFirst, .int v_restMany, .int v_restFirst, .ref o_gains, .ref o_value]))]
set_option maxHeartbeats 4000000 in
set_option maxRecDepth 100000 in
theorem c_X8_seed (l : Launch) (dC : Nat → ClassId) (dI : Nat → Nat → Nat) (cI cZ cG : ClassId) (o : Nat) (o_text : Nat) (o_kind : Nat) (o_size : Nat) (o_readJar : Nat) (o_page : Nat) (o_trial : Nat) (o_book : Nat) (o_kept : Nat) (o_isKept : Nat) (o_tastedFrom : Nat) (o_tastedTo : Nat) (o_order : Nat) (o_spots : Nat) (o_gains : Nat) (o_value : Nat) (sz : Nat) (v_thrown : Int32) (v_textSize : Int32) (v_place : Int32) (v_jars : Int32) (v_readPlaces : Int32) (v_readJars : Int32) (v_acts : Int32) (v_tasted : Int32) (v_seed : Int64) (v_some : Int32) (v_rowMany : Int32) (v_rowWay : Int32) (v_stuffWhich : Int32) (v_stuffNear : Int32) (v_keptMany : Int32) (v_keptFirst : Int32) (v_restMany : Int32) (v_restFirst : Int32) (a1 : Int64) {r0 : Int64} {n_thrown : Int32} {n_seed : Int64} (hf : x8_seed v_thrown v_seed a1 = some (r0, n_thrown, n_seed)) : Met l yX8_seed wsX8_seed rm_X8_seed (va_Pc [.ref o, .long a1] (gW (dC, dI) vwCl (gT cI cZ cG) (w_X8_seed cI cZ cG o o_text o_kind o_size o_readJar o_page o_trial o_book o_kept o_isKept o_tastedFrom o_tastedTo o_order o_spots o_gains o_value v_thrown v_textSize v_place v_jars v_readPlaces v_readJars v_acts v_tasted v_seed v_some v_rowMany v_rowWay v_stuffWhich v_stuffNear v_keptMany v_keptFirst v_restMany v_restFirst) sz)) (va_Ql (fun r _ => r = r0) (gE (dC, dI) vwCl (gT cI cZ cG) (w_X8_seed cI cZ cG o o_text o_kind o_size o_readJar o_page o_trial o_book o_kept o_isKept o_tastedFrom o_tastedTo o_order o_spots o_gains o_value n_thrown v_textSize v_place v_jars v_readPlaces v_readJars v_acts v_tasted n_seed v_some v_rowMany v_rowWay v_stuffWhich v_stuffNear v_keptMany v_keptFirst v_restMany v_restFirst) (va_A (w_X8_seed cI cZ cG o o_text o_kind o_size o_readJar o_page o_trial o_book o_kept o_isKept o_tastedFrom o_tastedTo o_order o_spots o_gains o_value v_thrown v_textSize v_place v_jars v_readPlaces v_readJars v_acts v_tasted v_seed v_some v_rowMany v_rowWay v_stuffWhich v_stuffNear v_keptMany v_keptFirst v_restMany v_restFirst) sz)) (va_A (w_X8_seed cI cZ cG o o_text o_kind o_size o_readJar o_page o_trial o_book o_kept o_isKept o_tastedFrom o_tastedTo o_order o_spots o_gains o_value v_thrown v_textSize v_place v_jars v_readPlaces v_readJars v_acts v_tasted v_seed v_some v_rowMany v_rowWay v_stuffWhich v_stuffNear v_keptMany v_keptFirst v_restMany v_restFirst) sz)) 0 0 (va_A (w_X8_seed cI cZ cG o o_text o_kind o_size o_readJar o_page o_trial o_book o_kept o_isKept o_tastedFrom o_tastedTo o_order o_spots o_gains o_value v_thrown v_textSize v_place v_jars v_readPlaces v_readJars v_acts v_tasted v_seed v_some v_rowMany v_rowWay v_stuffWhich v_stuffNear v_keptMany v_keptFirst v_restMany v_restFirst) sz) := by
  refine Met.ofW (cc := cX8_seed) (maxL := 5) (ret := (some .long)) (by decide) rfl ?_
  intro p e s m args below meth c s₁ B hml hv
  obtain ⟨rfl, hv⟩ := hv
  obtain ⟨hsz, hP, hK, hN, hD0⟩ := hv
  have hx := B.exec
  have hb := B.bytes
  have hr := B.returns
  have hts := atoms_spec (ws := wsX8_seed) B.pre
  have hown : s.vm.findClass RX8 = some m.cls := findClass_of_methodNamed B.named
  have hlocks := B.notSynchronized
  have hiX8 : ∀ w ∈ u_ws RX8 TX8 33, w ∈ wsX8_seed := fun w h => List.mem_cons_of_mem _ (List.mem_append_right _ h)
  subst hsz
  have hD := hD0.self (sz := s.heap.size)
  generalize hAe : va_A (w_X8_seed cI cZ cG o o_text o_kind o_size o_readJar o_page o_trial o_book o_kept o_isKept o_tastedFrom o_tastedTo o_order o_spots o_gains o_value v_thrown v_textSize v_place v_jars v_readPlaces v_readJars v_acts v_tasted v_seed v_some v_rowMany v_rowWay v_stuffWhich v_stuffNear v_keptMany v_keptFirst v_restMany v_restFirst) s.heap.size = A at hD ⊢
  have hA : ∀ q : Nat, s.heap.size ≤ q → A q := fun q h => by rw [← hAe]; exact Or.inr h
  clear hD0
  have hS : va_S A s.heap s.heap [] := va_S.rf
  have hP : va_P (dC, dI) vwCl (w_X8_seed cI cZ cG o o_text o_kind o_size o_readJar o_page o_trial o_book o_kept o_isKept o_tastedFrom o_tastedTo o_order o_spots o_gains o_value v_thrown v_textSize v_place v_jars v_readPlaces v_readJars v_acts v_tasted v_seed v_some v_rowMany v_rowWay v_stuffWhich v_stuffNear v_keptMany v_keptFirst v_restMany v_restFirst) s.heap := hP
  obtain ⟨Q, hQ⟩ : ∃ Q : State → Prop, Q = MQ below (va_Ql (fun r _ => r = r0) (gE (dC, dI) vwCl (gT cI cZ cG) (w_X8_seed cI cZ cG o o_text o_kind o_size o_readJar o_page o_trial o_book o_kept o_isKept o_tastedFrom o_tastedTo o_order o_spots o_gains o_value n_thrown v_textSize v_place v_jars v_readPlaces v_readJars v_acts v_tasted n_seed v_some v_rowMany v_rowWay v_stuffWhich v_stuffNear v_keptMany v_keptFirst v_restMany v_restFirst) A) A) (([Value.ref o, Value.long a1] : List Value).toArray) s 0 0 A := ⟨_, rfl⟩
  have hl := lv_entry ([.ref o, .long a1]) (n := 5) (Nat.le_of_ble_eq_true rfl)
  rw [← hQ, lg_entry_eq]
  generalize (lg_sl ([.ref o, .long a1]) ++ List.replicate (5 - (lg_sl ([.ref o, .long a1])).length) Slot.unset).toArray = ls at hl ⊢
  have hl : lv_has ls 5 [(0, .ref o), (1, .long a1)] := hl
  generalize hH : s.heap = H at hP hS ⊢
  have hS : va_S A s.heap H [] := by rw [hH]; exact hS
  generalize hlc : ([] : List Loc) = locs at hS ⊢
  show W p l e rm_X8_seed s m (([Value.ref o, Value.long a1] : List Value).toArray) below meth c H locs 0 0 Q (F0 m 0 ls [])
  unfold x8_seed at hf
  refine lv_aload_n hx hb dX8_seed_0 rfl (lv_at hl 0 rfl) ?_
  refine lv_iconst (v := (0 : Int32)) hx hb dX8_seed_1 (by decide) ?_
  refine va_put (D := (dC, dI)) (ci := 8) (v := .int (0 : Int32)) (ty := .int) (C := RX8) (T := TX8) (N := 33) hx hb hts hiX8 tyX8 tyX8_ok nmX8 hown hK hP hD hS 0 rfl rfl 0 (by decide) (hts (.fieldLink RX8 56 "GreenJarsModel" "thrown" "I") (by decide +kernel)) (fun _ h9 => h9) rfl (by decide +kernel) rfl rfl (Nat.le_of_ble_eq_true rfl) dX8_seed_2 (fun H locs hP hD hS => ?_)
  have hP : va_P (dC, dI) vwCl (w_X8_seed cI cZ cG o o_text o_kind o_size o_readJar o_page o_trial o_book o_kept o_isKept o_tastedFrom o_tastedTo o_order o_spots o_gains o_value (0 : Int32) v_textSize v_place v_jars v_readPlaces v_readJars v_acts v_tasted v_seed v_some v_rowMany v_rowWay v_stuffWhich v_stuffNear v_keptMany v_keptFirst v_restMany v_restFirst) H := hP
  have hD : va_D A (w_X8_seed cI cZ cG o o_text o_kind o_size o_readJar o_page o_trial o_book o_kept o_isKept o_tastedFrom o_tastedTo o_order o_spots o_gains o_value (0 : Int32) v_textSize v_place v_jars v_readPlaces v_readJars v_acts v_tasted v_seed v_some v_rowMany v_rowWay v_stuffWhich v_stuffNear v_keptMany v_keptFirst v_restMany v_restFirst) := hD
  refine lv_aload_n hx hb dX8_seed_5 rfl (lv_at hl 0 rfl) ?_
  refine va_get (D := (dC, dI)) (ci := 8) (v := .long v_seed) (C := RX8) (T := TX8) (N := 33) hx hb hts hiX8 hown hK hP 0 rfl rfl 19 (by decide) (hts (.fieldLink RX8 259 "GreenJarsModel" "seed" "J") (by decide +kernel)) (fun _ h9 => h9) rfl dX8_seed_6 ?_
  refine lv_lstore_n (lv' := [(3, .long v_seed), (0, .ref o), (1, .long a1)]) hx hb dX8_seed_9 rfl hl (by decide) rfl (fun ls hl => ?_)
  refine lv_aload_n hx hb dX8_seed_10 rfl (lv_at hl 1 rfl) ?_
  refine lv_lload_n hx hb dX8_seed_11 rfl (lv_at hl 2 rfl) ?_
  refine va_put (D := (dC, dI)) (ci := 8) (v := .long a1) (ty := .long) (C := RX8) (T := TX8) (N := 33) hx hb hts hiX8 tyX8 tyX8_ok nmX8 hown hK hP hD hS 0 rfl rfl 19 (by decide) (hts (.fieldLink RX8 259 "GreenJarsModel" "seed" "J") (by decide +kernel)) (fun _ h9 => h9) rfl (by decide +kernel) rfl rfl (Nat.le_of_ble_eq_true rfl) dX8_seed_12 (fun H locs hP hD hS => ?_)
  have hP : va_P (dC, dI) vwCl (w_X8_seed cI cZ cG o o_text o_kind o_size o_readJar o_page o_trial o_book o_kept o_isKept o_tastedFrom o_tastedTo o_order o_spots o_gains o_value (0 : Int32) v_textSize v_place v_jars v_readPlaces v_readJars v_acts v_tasted a1 v_some v_rowMany v_rowWay v_stuffWhich v_stuffNear v_keptMany v_keptFirst v_restMany v_restFirst) H := hP
  have hD : va_D A (w_X8_seed cI cZ cG o o_text o_kind o_size o_readJar o_page o_trial o_book o_kept o_isKept o_tastedFrom o_tastedTo o_order o_spots o_gains o_value (0 : Int32) v_textSize v_place v_jars v_readPlaces v_readJars v_acts v_tasted a1 v_some v_rowMany v_rowWay v_stuffWhich v_stuffNear v_keptMany v_keptFirst v_restMany v_restFirst) := hD
  refine lv_lload_n hx hb dX8_seed_15 rfl (lv_at hl 0 rfl) ?_
  rw [hQ]
  cases hf
  exact W.lret hx hb hr (fun t ht hW => ⟨⟨_, (), rfl, rfl, by rw [ht]; exact hP, va_K.moved hW.alike hK, hD⟩, hS.F ht⟩) hS.2.2 dX8_seed_16
