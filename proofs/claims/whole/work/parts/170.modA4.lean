abbrev rm_X8_years : Room := { frames := 6, cells := 0, slots := 0, locals := 142 }
abbrev w_X8_years (cI cZ cG : ClassId) (o : Nat) (o_text : Nat) (o_kind : Nat) (o_size : Nat) (o_readJar : Nat) (o_page : Nat) (o_trial : Nat) (o_book : Nat) (o_kept : Nat) (o_isKept : Nat) (o_tastedFrom : Nat) (o_tastedTo : Nat) (o_order : Nat) (o_spots : Nat) (o_gains : Nat) (o_value : Nat) (v_thrown : Int32) (v_textSize : Int32) (v_place : Int32) (v_jars : Int32) (v_readPlaces : Int32) (v_readJars : Int32) (v_acts : Int32) (v_tasted : Int32) (v_seed : Int64) (v_some : Int32) (v_rowMany : Int32) (v_rowWay : Int32) (v_stuffWhich : Int32) (v_stuffNear : Int32) (v_keptMany : Int32) (v_keptFirst : Int32) (v_restMany : Int32) (v_restFirst : Int32) (f_kind : Nat → Int32) (f_size : Nat → Int32) (f_page : Nat → Int32) (f_trial : Nat → Int32) : va_W := [(o, .inr (8, [.int v_thrown, .ref o_text, .int v_textSize, .int v_place, .int v_jars, .ref o_kind, .ref o_size, .int v_readPlaces, .int v_readJars, .ref o_readJar, .ref o_page, .ref o_trial, .ref o_book, .int v_acts, .ref o_kept, .ref o_isKept, .int v_tasted, .ref o_tastedFrom, .ref o_tastedTo, .long v_seed, .int v_some, .ref o_order, .ref o_spots, .int v_rowMany, .int v_rowWay, .int v_stuffWhich, .int v_stuffNear, .int v_keptMany, .int v_keptFirst, .int v_restMany, .int v_restFirst, .ref o_gains, .ref o_value])), (o_kind, .inl (cI, 6, .inl f_kind)), (o_size, .inl (cI, 6, .inl f_size)), (o_page, .inl (cI, 37, .inl f_page)), (o_trial, .inl (cI, 37, .inl f_trial))]
set_option maxHeartbeats 4000000 in
set_option maxRecDepth 100000 in
theorem c_X8_years (l : Launch) (dC : Nat → ClassId) (dI : Nat → Nat → Nat) (cI cZ cG : ClassId) {N : Nat} (o : Nat) (o_text : Nat) (o_kind : Nat) (o_size : Nat) (o_readJar : Nat) (o_page : Nat) (o_trial : Nat) (o_book : Nat) (o_kept : Nat) (o_isKept : Nat) (o_tastedFrom : Nat) (o_tastedTo : Nat) (o_order : Nat) (o_spots : Nat) (o_gains : Nat) (o_value : Nat) (sz : Nat) (v_thrown : Int32) (v_textSize : Int32) (v_place : Int32) (v_jars : Int32) (v_readPlaces : Int32) (v_readJars : Int32) (v_acts : Int32) (v_tasted : Int32) (v_seed : Int64) (v_some : Int32) (v_rowMany : Int32) (v_rowWay : Int32) (v_stuffWhich : Int32) (v_stuffNear : Int32) (v_keptMany : Int32) (v_keptFirst : Int32) (v_restMany : Int32) (v_restFirst : Int32) (f_kind : Nat → Int32) (f_size : Nat → Int32) (f_page : Nat → Int32) (f_trial : Nat → Int32) (a1 : Int32) {r0 : Int32} {n_thrown : Int32} {n_seed : Int64} {n_some : Int32} {n_trial : Nat → Int32} (hf : x8_years N v_thrown v_jars v_seed v_some f_kind f_size f_page f_trial a1 = some (r0, n_thrown, n_seed, n_some, n_trial)) : Met l yX8_years wsX8_years rm_X8_years (va_Pc [.ref o, .int a1] (gW (dC, dI) vwCl (gT cI cZ cG) (w_X8_years cI cZ cG o o_text o_kind o_size o_readJar o_page o_trial o_book o_kept o_isKept o_tastedFrom o_tastedTo o_order o_spots o_gains o_value v_thrown v_textSize v_place v_jars v_readPlaces v_readJars v_acts v_tasted v_seed v_some v_rowMany v_rowWay v_stuffWhich v_stuffNear v_keptMany v_keptFirst v_restMany v_restFirst f_kind f_size f_page f_trial) sz)) (va_Qi (fun r _ => r = r0) (gE (dC, dI) vwCl (gT cI cZ cG) (w_X8_years cI cZ cG o o_text o_kind o_size o_readJar o_page o_trial o_book o_kept o_isKept o_tastedFrom o_tastedTo o_order o_spots o_gains o_value n_thrown v_textSize v_place v_jars v_readPlaces v_readJars v_acts v_tasted n_seed n_some v_rowMany v_rowWay v_stuffWhich v_stuffNear v_keptMany v_keptFirst v_restMany v_restFirst f_kind f_size f_page n_trial) (va_A (w_X8_years cI cZ cG o o_text o_kind o_size o_readJar o_page o_trial o_book o_kept o_isKept o_tastedFrom o_tastedTo o_order o_spots o_gains o_value v_thrown v_textSize v_place v_jars v_readPlaces v_readJars v_acts v_tasted v_seed v_some v_rowMany v_rowWay v_stuffWhich v_stuffNear v_keptMany v_keptFirst v_restMany v_restFirst f_kind f_size f_page f_trial) sz)) (va_A (w_X8_years cI cZ cG o o_text o_kind o_size o_readJar o_page o_trial o_book o_kept o_isKept o_tastedFrom o_tastedTo o_order o_spots o_gains o_value v_thrown v_textSize v_place v_jars v_readPlaces v_readJars v_acts v_tasted v_seed v_some v_rowMany v_rowWay v_stuffWhich v_stuffNear v_keptMany v_keptFirst v_restMany v_restFirst f_kind f_size f_page f_trial) sz)) 0 0 (va_A (w_X8_years cI cZ cG o o_text o_kind o_size o_readJar o_page o_trial o_book o_kept o_isKept o_tastedFrom o_tastedTo o_order o_spots o_gains o_value v_thrown v_textSize v_place v_jars v_readPlaces v_readJars v_acts v_tasted v_seed v_some v_rowMany v_rowWay v_stuffWhich v_stuffNear v_keptMany v_keptFirst v_restMany v_restFirst f_kind f_size f_page f_trial) sz) := by
  refine Met.ofW (cc := cX8_years) (maxL := 5) (ret := (some .int)) (by decide) rfl ?_
  intro p e s m args below meth c s₁ B hml hv
  obtain ⟨rfl, hv⟩ := hv
  obtain ⟨hsz, hP, hK, hN, hD0⟩ := hv
  have hx := B.exec
  have hb := B.bytes
  have hr := B.returns
  have hts := atoms_spec (ws := wsX8_years) B.pre
  have hown : s.vm.findClass RX8 = some m.cls := findClass_of_methodNamed B.named
  have hlocks := B.notSynchronized
  have hiX8 : ∀ w ∈ u_ws RX8 TX8 33, w ∈ wsX8_years := fun w h => List.mem_cons_of_mem _ (List.mem_append_right _ h)
  subst hsz
  have hD := hD0.self (sz := s.heap.size)
  generalize hAe : va_A (w_X8_years cI cZ cG o o_text o_kind o_size o_readJar o_page o_trial o_book o_kept o_isKept o_tastedFrom o_tastedTo o_order o_spots o_gains o_value v_thrown v_textSize v_place v_jars v_readPlaces v_readJars v_acts v_tasted v_seed v_some v_rowMany v_rowWay v_stuffWhich v_stuffNear v_keptMany v_keptFirst v_restMany v_restFirst f_kind f_size f_page f_trial) s.heap.size = A at hD ⊢
  have hA : ∀ q : Nat, s.heap.size ≤ q → A q := fun q h => by rw [← hAe]; exact Or.inr h
  clear hD0
  have hS : va_S A s.heap s.heap [] := va_S.rf
  have hP : va_P (dC, dI) vwCl (w_X8_years cI cZ cG o o_text o_kind o_size o_readJar o_page o_trial o_book o_kept o_isKept o_tastedFrom o_tastedTo o_order o_spots o_gains o_value v_thrown v_textSize v_place v_jars v_readPlaces v_readJars v_acts v_tasted v_seed v_some v_rowMany v_rowWay v_stuffWhich v_stuffNear v_keptMany v_keptFirst v_restMany v_restFirst f_kind f_size f_page f_trial) s.heap := hP
  obtain ⟨Q, hQ⟩ : ∃ Q : State → Prop, Q = MQ below (va_Qi (fun r _ => r = r0) (gE (dC, dI) vwCl (gT cI cZ cG) (w_X8_years cI cZ cG o o_text o_kind o_size o_readJar o_page o_trial o_book o_kept o_isKept o_tastedFrom o_tastedTo o_order o_spots o_gains o_value n_thrown v_textSize v_place v_jars v_readPlaces v_readJars v_acts v_tasted n_seed n_some v_rowMany v_rowWay v_stuffWhich v_stuffNear v_keptMany v_keptFirst v_restMany v_restFirst f_kind f_size f_page n_trial) A) A) (([Value.ref o, Value.int a1] : List Value).toArray) s 0 0 A := ⟨_, rfl⟩
  have hl := lv_entry ([.ref o, .int a1]) (n := 5) (Nat.le_of_ble_eq_true rfl)
  rw [← hQ, lg_entry_eq]
  generalize (lg_sl ([.ref o, .int a1]) ++ List.replicate (5 - (lg_sl ([.ref o, .int a1])).length) Slot.unset).toArray = ls at hl ⊢
  have hl : lv_has ls 5 [(0, .ref o), (1, .int a1)] := hl
  generalize hH : s.heap = H at hP hS ⊢
  have hS : va_S A s.heap H [] := by rw [hH]; exact hS
  generalize hlc : ([] : List Loc) = locs at hS ⊢
  show W p l e rm_X8_years s m (([Value.ref o, Value.int a1] : List Value).toArray) below meth c H locs 0 0 Q (F0 m 0 ls [])
  have L28 : ∀ (n28 : Nat), ∀ (x2 : Int32) (x3 : Int32) (y_thrown : Int32) (y_seed : Int64) (y_some : Int32) (y_trial : Nat → Int32) (H : Heap) (locs : List Loc) (ls : Array Slot), x8_years_b28 N v_jars f_kind f_size f_page a1 n28 x2 x3 y_thrown y_seed y_some y_trial = some (r0, n_thrown, n_seed, n_some, n_trial) → lv_has ls 5 [(0, .ref o), (1, .int a1), (2, .int x2), (3, .int x3)] → va_P (dC, dI) vwCl (w_X8_years cI cZ cG o o_text o_kind o_size o_readJar o_page o_trial o_book o_kept o_isKept o_tastedFrom o_tastedTo o_order o_spots o_gains o_value y_thrown v_textSize v_place v_jars v_readPlaces v_readJars v_acts v_tasted y_seed y_some v_rowMany v_rowWay v_stuffWhich v_stuffNear v_keptMany v_keptFirst v_restMany v_restFirst f_kind f_size f_page y_trial) H → va_D A (w_X8_years cI cZ cG o o_text o_kind o_size o_readJar o_page o_trial o_book o_kept o_isKept o_tastedFrom o_tastedTo o_order o_spots o_gains o_value y_thrown v_textSize v_place v_jars v_readPlaces v_readJars v_acts v_tasted y_seed y_some v_rowMany v_rowWay v_stuffWhich v_stuffNear v_keptMany v_keptFirst v_restMany v_restFirst f_kind f_size f_page y_trial) → va_S A s.heap H locs → W p l e rm_X8_years s m (([Value.ref o, Value.int a1] : List Value).toArray) below meth c H locs 0 0 Q (F0 m 28 ls []) := by
    intro n28
    induction n28 with
    | zero =>
      intro x2 x3 y_thrown y_seed y_some y_trial H locs ls hf hl hP hD hS
      exact g_no hf
    | succ n28 ih28 =>
      have J103 : ∀ (x2 : Int32) (x3 : Int32) (t1 : Int32) (y_thrown : Int32) (y_seed : Int64) (y_some : Int32) (y_trial : Nat → Int32) (H : Heap) (locs : List Loc) (ls : Array Slot), x8_years_b103 N v_jars f_kind f_size f_page a1 (x8_years_b28 N v_jars f_kind f_size f_page a1 n28) x2 x3 t1 y_thrown y_seed y_some y_trial = some (r0, n_thrown, n_seed, n_some, n_trial) → lv_has ls 5 [(0, .ref o), (1, .int a1), (2, .int x2), (3, .int x3)] → va_P (dC, dI) vwCl (w_X8_years cI cZ cG o o_text o_kind o_size o_readJar o_page o_trial o_book o_kept o_isKept o_tastedFrom o_tastedTo o_order o_spots o_gains o_value y_thrown v_textSize v_place v_jars v_readPlaces v_readJars v_acts v_tasted y_seed y_some v_rowMany v_rowWay v_stuffWhich v_stuffNear v_keptMany v_keptFirst v_restMany v_restFirst f_kind f_size f_page y_trial) H → va_D A (w_X8_years cI cZ cG o o_text o_kind o_size o_readJar o_page o_trial o_book o_kept o_isKept o_tastedFrom o_tastedTo o_order o_spots o_gains o_value y_thrown v_textSize v_place v_jars v_readPlaces v_readJars v_acts v_tasted y_seed y_some v_rowMany v_rowWay v_stuffWhich v_stuffNear v_keptMany v_keptFirst v_restMany v_restFirst f_kind f_size f_page y_trial) → va_S A s.heap H locs → W p l e rm_X8_years s m (([Value.ref o, Value.int a1] : List Value).toArray) below meth c H locs 0 0 Q (F0 m 103 ls [.int t1, .ref o]) := by
        intro x2 x3 t1 y_thrown y_seed y_some y_trial H locs ls hf hl hP hD hS
        unfold x8_years_b103 at hf
        obtain ⟨r1, y2, hc3, hf⟩ := g_b2 hf
        refine g_wV (As := [.int t1]) (rest := []) (wr := [(o_page, .inl (cI, 37, .inl f_page))]) (wn := (w_X8_years cI cZ cG o o_text o_kind o_size o_readJar o_page o_trial o_book o_kept o_isKept o_tastedFrom o_tastedTo o_order o_spots o_gains o_value y_thrown v_textSize v_place v_jars v_readPlaces v_readJars v_acts v_tasted y_seed y_some v_rowMany v_rowWay v_stuffWhich v_stuffNear v_keptMany v_keptFirst v_restMany v_restFirst f_kind f_size f_page y2)) ⟨hx, hb, hml, hown, hts⟩ (c_X8_does l dC dI cI cZ cG o o_text o_kind o_size o_readJar o_page o_trial o_book o_kept o_isKept o_tastedFrom o_tastedTo o_order o_spots o_gains o_value H.size  y_thrown v_textSize v_place v_jars v_readPlaces v_readJars v_acts v_tasted y_seed y_some v_rowMany v_rowWay v_stuffWhich v_stuffNear v_keptMany v_keptFirst v_restMany v_restFirst f_kind f_size y_trial t1 hc3) (cwV 1 hts gX8_years_X8_does rfl rfl rfl (by decide +kernel) ⟨Nat.le_of_ble_eq_true rfl, Nat.le_of_ble_eq_true rfl⟩) hK hN hP hD hS hA [0, 1, 2, 4] [3] [1, 2, 3, 0, 4] rfl rfl (by decide) rfl (by decide) (by decide) rfl (by decide) (va_recv hK hP (ci := 8) (q0 := 0) rfl rfl) rfl hl.1 rfl (Nat.le_of_ble_eq_true rfl) dX8_years_103 ⟨Nat.zero_le _, Nat.zero_le _⟩ (fun H locs hP hD hS => ?_)
        refine lv_pop hx hb dX8_years_106 rfl ?_
        refine lv_iload_n hx hb dX8_years_107 rfl (lv_at hl 2 rfl) ?_
        refine lv_aload_n hx hb dX8_years_108 rfl (lv_at hl 0 rfl) ?_
        refine lv_aload_n hx hb dX8_years_109 rfl (lv_at hl 0 rfl) ?_
        refine va_get (D := (dC, dI)) (ci := 8) (v := .ref o_trial) (C := RX8) (T := TX8) (N := 33) hx hb hts hiX8 hown hK hP 0 rfl rfl 11 (by decide) (hts (.fieldLink RX8 25 "GreenJarsModel" "trial" "[I") (by decide +kernel)) (fun _ h9 => h9) rfl dX8_years_110 ?_
        obtain ⟨r4, hc5, hf⟩ := g_b1 hf
        refine g_rV (As := [.ref o_trial]) (rest := [.int x2]) ⟨hx, hb, hml, hown, hts⟩ (c_X8_flavours l dC dI cI cZ cG o o_text o_kind o_size o_readJar o_page o_trial o_book o_kept o_isKept o_tastedFrom o_tastedTo o_order o_spots o_gains o_value o_trial  y_thrown v_textSize v_place v_jars v_readPlaces v_readJars v_acts v_tasted y_seed y_some v_rowMany v_rowWay v_stuffWhich v_stuffNear v_keptMany v_keptFirst v_restMany v_restFirst y2 hc5) (cwV 1 hts gX8_years_X8_flavours rfl rfl rfl (by decide +kernel) ⟨Nat.le_of_ble_eq_true rfl, Nat.le_of_ble_eq_true rfl⟩) hK hN (hP.sub [0, 4] rfl) (va_recv hK hP (ci := 8) (q0 := 0) rfl rfl) rfl hl.1 rfl (Nat.le_of_ble_eq_true rfl) dX8_years_113 ⟨Nat.zero_le _, Nat.zero_le _⟩ ?_
        refine lv_iadd hx hb dX8_years_116 ?_
        refine lv_istore_n (lv' := [(2, .int (x2 + r4)), (0, .ref o), (1, .int a1), (3, .int x3)]) hx hb dX8_years_117 rfl hl (by decide) rfl (fun ls hl => ?_)
        refine lv_iinc (v := (x3 + (1 : Int32))) (lv' := [(3, .int (x3 + (1 : Int32))), (2, .int (x2 + r4)), (0, .ref o), (1, .int a1)]) hx hb dX8_years_118 hl (k := 3) rfl rfl (by decide) rfl (fun ls hl => ?_)
        refine lv_goto (tgt := 28) hx hb dX8_years_121 (by decide) ?_
        exact ih28 (x2 + r4) (x3 + (1 : Int32)) y_thrown y_seed y_some y2 H locs ls hf (lv_sub hl [2, 3, 1, 0] rfl) hP hD hS
      intro x2 x3 y_thrown y_seed y_some y_trial H locs ls hf hl hP hD hS
      unfold x8_years_b28 at hf
      refine lv_iload_n hx hb dX8_years_28 rfl (lv_at hl 3 rfl) ?_
      refine lv_iload_n hx hb dX8_years_29 rfl (lv_at hl 1 rfl) ?_
      refine lv_icmp_ge (tgt := 124) hx hb dX8_years_30 (by decide) (fun c6 => ?_) (fun c6 => ?_)
      · have hf := g_pos c6 hf
        refine lv_iload_n hx hb dX8_years_124 rfl (lv_at hl 2 rfl) ?_
        rw [hQ]
        cases hf
        exact W.iret hx hb hr (fun t ht hW => ⟨⟨_, (), rfl, rfl, by rw [ht]; exact hP, va_K.moved hW.alike hK, hD⟩, hS.F ht⟩) hS.2.2 dX8_years_125
      · have hf := g_neg c6 hf
        refine lv_aload_n hx hb dX8_years_33 rfl (lv_at hl 0 rfl) ?_
        refine lv_aload_n hx hb dX8_years_34 rfl (lv_at hl 0 rfl) ?_
        refine va_get (D := (dC, dI)) (ci := 8) (v := .long y_seed) (C := RX8) (T := TX8) (N := 33) hx hb hts hiX8 hown hK hP 0 rfl rfl 19 (by decide) (hts (.fieldLink RX8 259 "GreenJarsModel" "seed" "J") (by decide +kernel)) (fun _ h9 => h9) rfl dX8_years_35 ?_
        refine lv_ldc2 (v := (6364136223846793005 : Int64)) hx hb hown (hts (.constantLong RX8 265 (6364136223846793005 : Int64)) (by decide +kernel)) dX8_years_38 ?_
        refine lv_lmul hx hb dX8_years_41 ?_
        refine lv_ldc2 (v := (1442695040888963407 : Int64)) hx hb hown (hts (.constantLong RX8 267 (1442695040888963407 : Int64)) (by decide +kernel)) dX8_years_42 ?_
        refine lv_ladd hx hb dX8_years_45 ?_
        refine va_put (D := (dC, dI)) (ci := 8) (v := .long ((y_seed * (6364136223846793005 : Int64)) + (1442695040888963407 : Int64))) (ty := .long) (C := RX8) (T := TX8) (N := 33) hx hb hts hiX8 tyX8 tyX8_ok nmX8 hown hK hP hD hS 0 rfl rfl 19 (by decide) (hts (.fieldLink RX8 259 "GreenJarsModel" "seed" "J") (by decide +kernel)) (fun _ h9 => h9) rfl (by decide +kernel) rfl rfl (Nat.le_of_ble_eq_true rfl) dX8_years_46 (fun H locs hP hD hS => ?_)
        have hP : va_P (dC, dI) vwCl (w_X8_years cI cZ cG o o_text o_kind o_size o_readJar o_page o_trial o_book o_kept o_isKept o_tastedFrom o_tastedTo o_order o_spots o_gains o_value y_thrown v_textSize v_place v_jars v_readPlaces v_readJars v_acts v_tasted ((y_seed * (6364136223846793005 : Int64)) + (1442695040888963407 : Int64)) y_some v_rowMany v_rowWay v_stuffWhich v_stuffNear v_keptMany v_keptFirst v_restMany v_restFirst f_kind f_size f_page y_trial) H := hP
        have hD : va_D A (w_X8_years cI cZ cG o o_text o_kind o_size o_readJar o_page o_trial o_book o_kept o_isKept o_tastedFrom o_tastedTo o_order o_spots o_gains o_value y_thrown v_textSize v_place v_jars v_readPlaces v_readJars v_acts v_tasted ((y_seed * (6364136223846793005 : Int64)) + (1442695040888963407 : Int64)) y_some v_rowMany v_rowWay v_stuffWhich v_stuffNear v_keptMany v_keptFirst v_restMany v_restFirst f_kind f_size f_page y_trial) := hD
        refine lv_aload_n hx hb dX8_years_49 rfl (lv_at hl 0 rfl) ?_
        refine va_get (D := (dC, dI)) (ci := 8) (v := .long ((y_seed * (6364136223846793005 : Int64)) + (1442695040888963407 : Int64))) (C := RX8) (T := TX8) (N := 33) hx hb hts hiX8 hown hK hP 0 rfl rfl 19 (by decide) (hts (.fieldLink RX8 259 "GreenJarsModel" "seed" "J") (by decide +kernel)) (fun _ h9 => h9) rfl dX8_years_50 ?_
        refine lv_bipush (v := (33 : Int32)) hx hb dX8_years_53 (by decide +kernel) ?_
        refine lv_lushr hx hb dX8_years_55 rfl ?_
        refine lv_ldc2 (v := (32 : Int64)) hx hb hown (hts (.constantLong RX8 269 (32 : Int64)) (by decide +kernel)) dX8_years_56 ?_
        refine lv_lrem hx hb dX8_years_59 (by decide) ?_
        refine lv_l2i hx hb dX8_years_60 rfl ?_
        refine lv_istore (lv' := [(4, .int (((((y_seed * (6364136223846793005 : Int64)) + (1442695040888963407 : Int64)).toUInt64 >>> ((33 : Int32).toInt64.toUInt64 &&& Int64.toUInt64 63)).toInt64 - (((y_seed * (6364136223846793005 : Int64)) + (1442695040888963407 : Int64)).toUInt64 >>> ((33 : Int32).toInt64.toUInt64 &&& Int64.toUInt64 63)).toInt64 / (32 : Int64) * (32 : Int64)).toInt32)), (0, .ref o), (1, .int a1), (2, .int x2), (3, .int x3)]) hx hb dX8_years_61 hl (by decide) rfl (fun ls hl => ?_)
        refine lv_aload_n hx hb dX8_years_63 rfl (lv_at hl 1 rfl) ?_
        refine lv_iload hx hb dX8_years_64 (lv_at hl 0 rfl) ?_
        refine lv_bipush (v := (24 : Int32)) hx hb dX8_years_66 (by decide +kernel) ?_
        refine lv_icmp_ge (tgt := 90) hx hb dX8_years_68 (by decide) (fun c7 => ?_) (fun c7 => ?_)
        · have hf := g_pos c7 hf
          refine lv_iload hx hb dX8_years_90 (lv_at hl 0 rfl) ?_
          refine lv_bipush (v := (24 : Int32)) hx hb dX8_years_92 (by decide +kernel) ?_
          refine lv_icmp_ne (tgt := 102) hx hb dX8_years_94 (by decide) (fun c8 => ?_) (fun c8 => ?_)
          · have hf := g_neg c8 hf
            refine lv_iconst (v := (0 : Int32)) hx hb dX8_years_102 (by decide) ?_
            exact J103 x2 x3 (0 : Int32) y_thrown ((y_seed * (6364136223846793005 : Int64)) + (1442695040888963407 : Int64)) y_some y_trial H locs ls hf (lv_sub hl [1, 2, 3, 4] rfl) hP hD hS
          · have hf := g_pos c8 hf
            refine lv_bipush (v := (100 : Int32)) hx hb dX8_years_97 (by decide +kernel) ?_
            refine lv_goto (tgt := 103) hx hb dX8_years_99 (by decide) ?_
            exact J103 x2 x3 (100 : Int32) y_thrown ((y_seed * (6364136223846793005 : Int64)) + (1442695040888963407 : Int64)) y_some y_trial H locs ls hf (lv_sub hl [1, 2, 3, 4] rfl) hP hD hS
        · have hf := g_neg c7 hf
          refine lv_sipush (v := (300 : Int32)) hx hb dX8_years_71 (by decide +kernel) ?_
          refine lv_bipush (v := (10 : Int32)) hx hb dX8_years_74 (by decide +kernel) ?_
          refine lv_iload hx hb dX8_years_76 (lv_at hl 0 rfl) ?_
          refine lv_iconst (v := (4 : Int32)) hx hb dX8_years_78 (by decide) ?_
          refine lv_idiv hx hb dX8_years_79 (by decide) ?_
          refine lv_imul hx hb dX8_years_80 ?_
          refine lv_iadd hx hb dX8_years_81 ?_
          refine lv_iload hx hb dX8_years_82 (lv_at hl 0 rfl) ?_
          refine lv_iconst (v := (4 : Int32)) hx hb dX8_years_84 (by decide) ?_
          refine lv_irem hx hb dX8_years_85 (by decide) ?_
          refine lv_iadd hx hb dX8_years_86 ?_
          refine lv_goto (tgt := 103) hx hb dX8_years_87 (by decide) ?_
          exact J103 x2 x3 (((300 : Int32) + ((10 : Int32) * (((((y_seed * (6364136223846793005 : Int64)) + (1442695040888963407 : Int64)).toUInt64 >>> ((33 : Int32).toInt64.toUInt64 &&& Int64.toUInt64 63)).toInt64 - (((y_seed * (6364136223846793005 : Int64)) + (1442695040888963407 : Int64)).toUInt64 >>> ((33 : Int32).toInt64.toUInt64 &&& Int64.toUInt64 63)).toInt64 / (32 : Int64) * (32 : Int64)).toInt32 / (4 : Int32)))) + (((((y_seed * (6364136223846793005 : Int64)) + (1442695040888963407 : Int64)).toUInt64 >>> ((33 : Int32).toInt64.toUInt64 &&& Int64.toUInt64 63)).toInt64 - (((y_seed * (6364136223846793005 : Int64)) + (1442695040888963407 : Int64)).toUInt64 >>> ((33 : Int32).toInt64.toUInt64 &&& Int64.toUInt64 63)).toInt64 / (32 : Int64) * (32 : Int64)).toInt32 - ((((y_seed * (6364136223846793005 : Int64)) + (1442695040888963407 : Int64)).toUInt64 >>> ((33 : Int32).toInt64.toUInt64 &&& Int64.toUInt64 63)).toInt64 - (((y_seed * (6364136223846793005 : Int64)) + (1442695040888963407 : Int64)).toUInt64 >>> ((33 : Int32).toInt64.toUInt64 &&& Int64.toUInt64 63)).toInt64 / (32 : Int64) * (32 : Int64)).toInt32 / (4 : Int32) * (4 : Int32))) y_thrown ((y_seed * (6364136223846793005 : Int64)) + (1442695040888963407 : Int64)) y_some y_trial H locs ls hf (lv_sub hl [1, 2, 3, 4] rfl) hP hD hS
  unfold x8_years at hf
  refine lv_aload_n hx hb dX8_years_0 rfl (lv_at hl 0 rfl) ?_
  refine lv_iconst (v := (0 : Int32)) hx hb dX8_years_1 (by decide) ?_
  refine va_put (D := (dC, dI)) (ci := 8) (v := .int (0 : Int32)) (ty := .int) (C := RX8) (T := TX8) (N := 33) hx hb hts hiX8 tyX8 tyX8_ok nmX8 hown hK hP hD hS 0 rfl rfl 0 (by decide) (hts (.fieldLink RX8 56 "GreenJarsModel" "thrown" "I") (by decide +kernel)) (fun _ h9 => h9) rfl (by decide +kernel) rfl rfl (Nat.le_of_ble_eq_true rfl) dX8_years_2 (fun H locs hP hD hS => ?_)
  have hP : va_P (dC, dI) vwCl (w_X8_years cI cZ cG o o_text o_kind o_size o_readJar o_page o_trial o_book o_kept o_isKept o_tastedFrom o_tastedTo o_order o_spots o_gains o_value (0 : Int32) v_textSize v_place v_jars v_readPlaces v_readJars v_acts v_tasted v_seed v_some v_rowMany v_rowWay v_stuffWhich v_stuffNear v_keptMany v_keptFirst v_restMany v_restFirst f_kind f_size f_page f_trial) H := hP
  have hD : va_D A (w_X8_years cI cZ cG o o_text o_kind o_size o_readJar o_page o_trial o_book o_kept o_isKept o_tastedFrom o_tastedTo o_order o_spots o_gains o_value (0 : Int32) v_textSize v_place v_jars v_readPlaces v_readJars v_acts v_tasted v_seed v_some v_rowMany v_rowWay v_stuffWhich v_stuffNear v_keptMany v_keptFirst v_restMany v_restFirst f_kind f_size f_page f_trial) := hD
  refine lv_iload_n hx hb dX8_years_5 rfl (lv_at hl 1 rfl) ?_
  refine lv_i2l hx hb dX8_years_6 rfl ?_
  refine lv_lconst (v := (1 : Int64)) hx hb dX8_years_7 (by decide) ?_
  refine lv_ldc2 (v := (30 : Int64)) hx hb hown (hts (.constantLong RX8 263 (30 : Int64)) (by decide +kernel)) dX8_years_8 ?_
  obtain ⟨r9, hc10, hf⟩ := g_b1 hf
  refine g_rS (As := [.long a1.toInt64, .long (1 : Int64), .long (30 : Int64)]) (rest := []) ⟨hx, hb, hml, hown, hts⟩ (c_X8_in l dC dI cI cZ cG    a1.toInt64 (1 : Int64) (30 : Int64) hc10) (va_cwS 3 hts gX8_years_X8_in rfl rfl rfl (by decide +kernel) ⟨Nat.le_of_ble_eq_true rfl, Nat.le_of_ble_eq_true rfl⟩) hK hN (hP.sub [] rfl) rfl hl.1 rfl (Nat.le_of_ble_eq_true rfl) dX8_years_11 ⟨Nat.zero_le _, Nat.zero_le _⟩ ?_
  refine lv_if_ne (tgt := 20) hx hb dX8_years_14 (by decide) (fun c11 => ?_) (fun c11 => ?_)
  · have hf := g_neg c11 hf
    refine lv_aload_n hx hb dX8_years_20 rfl (lv_at hl 0 rfl) ?_
    obtain ⟨y12, y13, hc14, hf⟩ := g_b2 hf
    refine g_wVv (As := []) (rest := []) (wr := [(o_kind, .inl (cI, 6, .inl f_kind)), (o_size, .inl (cI, 6, .inl f_size))]) (wn := (w_X8_years cI cZ cG o o_text o_kind o_size o_readJar o_page o_trial o_book o_kept o_isKept o_tastedFrom o_tastedTo o_order o_spots o_gains o_value (0 : Int32) v_textSize v_place v_jars v_readPlaces v_readJars v_acts v_tasted v_seed y12 v_rowMany v_rowWay v_stuffWhich v_stuffNear v_keptMany v_keptFirst v_restMany v_restFirst f_kind f_size f_page y13)) ⟨hx, hb, hml, hown, hts⟩ (c_X8_begin l dC dI cI cZ cG o o_text o_kind o_size o_readJar o_page o_trial o_book o_kept o_isKept o_tastedFrom o_tastedTo o_order o_spots o_gains o_value H.size  (0 : Int32) v_textSize v_place v_jars v_readPlaces v_readJars v_acts v_tasted v_seed v_some v_rowMany v_rowWay v_stuffWhich v_stuffNear v_keptMany v_keptFirst v_restMany v_restFirst f_page f_trial hc14) (cwV 0 hts gX8_years_X8_begin rfl rfl rfl (by decide +kernel) ⟨Nat.le_of_ble_eq_true rfl, Nat.le_of_ble_eq_true rfl⟩) hK hN hP hD hS hA [0, 3, 4] [1, 2] [2, 0, 1, 3, 4] rfl rfl (by decide) rfl (by decide) (by decide) rfl (by decide) (va_recv hK hP (ci := 8) (q0 := 0) rfl rfl) rfl hl.1 rfl (Nat.le_of_ble_eq_true rfl) dX8_years_21 ⟨Nat.zero_le _, Nat.zero_le _⟩ (fun H locs hP hD hS => ?_)
    refine lv_iconst (v := (0 : Int32)) hx hb dX8_years_24 (by decide) ?_
    refine lv_istore_n (lv' := [(2, .int (0 : Int32)), (0, .ref o), (1, .int a1)]) hx hb dX8_years_25 rfl hl (by decide) rfl (fun ls hl => ?_)
    refine lv_iconst (v := (0 : Int32)) hx hb dX8_years_26 (by decide) ?_
    refine lv_istore_n (lv' := [(3, .int (0 : Int32)), (2, .int (0 : Int32)), (0, .ref o), (1, .int a1)]) hx hb dX8_years_27 rfl hl (by decide) rfl (fun ls hl => ?_)
    exact L28 N (0 : Int32) (0 : Int32) (0 : Int32) v_seed y12 y13 H locs ls hf (lv_sub hl [2, 3, 1, 0] rfl) hP hD hS
  · have hf := g_pos c11 hf
    refine lv_bipush (v := (-2 : Int32)) hx hb dX8_years_17 (by decide +kernel) ?_
    rw [hQ]
    cases hf
    exact W.iret hx hb hr (fun t ht hW => ⟨⟨_, (), rfl, rfl, by rw [ht]; exact hP, va_K.moved hW.alike hK, hD⟩, hS.F ht⟩) hS.2.2 dX8_years_19
abbrev rm_X8_keep : Room := { frames := 1, cells := 0, slots := 0, locals := 25 }
abbrev w_X8_keep (cI cZ cG : ClassId) (o : Nat) (o_text : Nat) (o_kind : Nat) (o_size : Nat) (o_readJar : Nat) (o_page : Nat) (o_trial : Nat) (o_book : Nat) (o_kept : Nat) (o_isKept : Nat) (o_tastedFrom : Nat) (o_tastedTo : Nat) (o_order : Nat) (o_spots : Nat) (o_gains : Nat) (o_value : Nat) (v_thrown : Int32) (v_textSize : Int32) (v_place : Int32) (v_jars : Int32) (v_readPlaces : Int32) (v_readJars : Int32) (v_acts : Int32) (v_tasted : Int32) (v_seed : Int64) (v_some : Int32) (v_rowMany : Int32) (v_rowWay : Int32) (v_stuffWhich : Int32) (v_stuffNear : Int32) (v_keptMany : Int32) (v_keptFirst : Int32) (v_restMany : Int32) (v_restFirst : Int32) (f_page : Nat → Int32) (f_kept : Nat → Int32) (f_isKept : Nat → Int32) : va_W := [(o, .inr (8, [.int v_thrown, .ref o_text, .int v_textSize, .int v_place, .int v_jars, .ref o_kind, .ref o_size, .int v_readPlaces, .int v_readJars, .ref o_readJar, .ref o_page, .ref o_trial, .ref o_book, .int v_acts, .ref o_kept, .ref o_isKept, .int v_tasted, .ref o_tastedFrom, .ref o_tastedTo, .long v_seed, .int v_some, .ref o_order, .ref o_spots, .int v_rowMany, .int v_rowWay, .int v_stuffWhich, .int v_stuffNear, .int v_keptMany, .int v_keptFirst, .int v_restMany, .int v_restFirst, .ref o_gains, .ref o_value])), (o_page, .inl (cI, 37, .inl f_page)), (o_kept, .inl (cI, 74, .inl f_kept)), (o_isKept, .inl (cZ, 2, .inl f_isKept))]
set_option maxHeartbeats 4000000 in
set_option maxRecDepth 100000 in
theorem c_X8_keep (l : Launch) (dC : Nat → ClassId) (dI : Nat → Nat → Nat) (cI cZ cG : ClassId) {N : Nat} (o : Nat) (o_text : Nat) (o_kind : Nat) (o_size : Nat) (o_readJar : Nat) (o_page : Nat) (o_trial : Nat) (o_book : Nat) (o_kept : Nat) (o_isKept : Nat) (o_tastedFrom : Nat) (o_tastedTo : Nat) (o_order : Nat) (o_spots : Nat) (o_gains : Nat) (o_value : Nat) (sz : Nat) (v_thrown : Int32) (v_textSize : Int32) (v_place : Int32) (v_jars : Int32) (v_readPlaces : Int32) (v_readJars : Int32) (v_acts : Int32) (v_tasted : Int32) (v_seed : Int64) (v_some : Int32) (v_rowMany : Int32) (v_rowWay : Int32) (v_stuffWhich : Int32) (v_stuffNear : Int32) (v_keptMany : Int32) (v_keptFirst : Int32) (v_restMany : Int32) (v_restFirst : Int32) (f_page : Nat → Int32) (f_kept : Nat → Int32) (f_isKept : Nat → Int32) (a1 : Int32) {r0 : Int32} {n_thrown : Int32} {n_kept : Nat → Int32} {n_isKept : Nat → Int32} (hf : x8_keep N v_thrown f_page f_kept f_isKept a1 = some (r0, n_thrown, n_kept, n_isKept)) : Met l yX8_keep wsX8_keep rm_X8_keep (va_Pc [.ref o, .int a1] (gW (dC, dI) vwCl (gT cI cZ cG) (w_X8_keep cI cZ cG o o_text o_kind o_size o_readJar o_page o_trial o_book o_kept o_isKept o_tastedFrom o_tastedTo o_order o_spots o_gains o_value v_thrown v_textSize v_place v_jars v_readPlaces v_readJars v_acts v_tasted v_seed v_some v_rowMany v_rowWay v_stuffWhich v_stuffNear v_keptMany v_keptFirst v_restMany v_restFirst f_page f_kept f_isKept) sz)) (va_Qi (fun r _ => r = r0) (gE (dC, dI) vwCl (gT cI cZ cG) (w_X8_keep cI cZ cG o o_text o_kind o_size o_readJar o_page o_trial o_book o_kept o_isKept o_tastedFrom o_tastedTo o_order o_spots o_gains o_value n_thrown v_textSize v_place v_jars v_readPlaces v_readJars v_acts v_tasted v_seed v_some v_rowMany v_rowWay v_stuffWhich v_stuffNear v_keptMany v_keptFirst v_restMany v_restFirst f_page n_kept n_isKept) (va_A (w_X8_keep cI cZ cG o o_text o_kind o_size o_readJar o_page o_trial o_book o_kept o_isKept o_tastedFrom o_tastedTo o_order o_spots o_gains o_value v_thrown v_textSize v_place v_jars v_readPlaces v_readJars v_acts v_tasted v_seed v_some v_rowMany v_rowWay v_stuffWhich v_stuffNear v_keptMany v_keptFirst v_restMany v_restFirst f_page f_kept f_isKept) sz)) (va_A (w_X8_keep cI cZ cG o o_text o_kind o_size o_readJar o_page o_trial o_book o_kept o_isKept o_tastedFrom o_tastedTo o_order o_spots o_gains o_value v_thrown v_textSize v_place v_jars v_readPlaces v_readJars v_acts v_tasted v_seed v_some v_rowMany v_rowWay v_stuffWhich v_stuffNear v_keptMany v_keptFirst v_restMany v_restFirst f_page f_kept f_isKept) sz)) 0 0 (va_A (w_X8_keep cI cZ cG o o_text o_kind o_size o_readJar o_page o_trial o_book o_kept o_isKept o_tastedFrom o_tastedTo o_order o_spots o_gains o_value v_thrown v_textSize v_place v_jars v_readPlaces v_readJars v_acts v_tasted v_seed v_some v_rowMany v_rowWay v_stuffWhich v_stuffNear v_keptMany v_keptFirst v_restMany v_restFirst f_page f_kept f_isKept) sz) := by
  refine Met.ofW (cc := cX8_keep) (maxL := 3) (ret := (some .int)) (by decide) rfl ?_
  intro p e s m args below meth c s₁ B hml hv
  obtain ⟨rfl, hv⟩ := hv
  obtain ⟨hsz, hP, hK, hN, hD0⟩ := hv
  have hx := B.exec
  have hb := B.bytes
  have hr := B.returns
  have hts := atoms_spec (ws := wsX8_keep) B.pre
  have hown : s.vm.findClass RX8 = some m.cls := findClass_of_methodNamed B.named
  have hlocks := B.notSynchronized
  have hiX8 : ∀ w ∈ u_ws RX8 TX8 33, w ∈ wsX8_keep := fun w h => List.mem_cons_of_mem _ (List.mem_append_right _ h)
  subst hsz
  have hD := hD0.self (sz := s.heap.size)
  generalize hAe : va_A (w_X8_keep cI cZ cG o o_text o_kind o_size o_readJar o_page o_trial o_book o_kept o_isKept o_tastedFrom o_tastedTo o_order o_spots o_gains o_value v_thrown v_textSize v_place v_jars v_readPlaces v_readJars v_acts v_tasted v_seed v_some v_rowMany v_rowWay v_stuffWhich v_stuffNear v_keptMany v_keptFirst v_restMany v_restFirst f_page f_kept f_isKept) s.heap.size = A at hD ⊢
  have hA : ∀ q : Nat, s.heap.size ≤ q → A q := fun q h => by rw [← hAe]; exact Or.inr h
  clear hD0
  have hS : va_S A s.heap s.heap [] := va_S.rf
  have hP : va_P (dC, dI) vwCl (w_X8_keep cI cZ cG o o_text o_kind o_size o_readJar o_page o_trial o_book o_kept o_isKept o_tastedFrom o_tastedTo o_order o_spots o_gains o_value v_thrown v_textSize v_place v_jars v_readPlaces v_readJars v_acts v_tasted v_seed v_some v_rowMany v_rowWay v_stuffWhich v_stuffNear v_keptMany v_keptFirst v_restMany v_restFirst f_page f_kept f_isKept) s.heap := hP
  obtain ⟨Q, hQ⟩ : ∃ Q : State → Prop, Q = MQ below (va_Qi (fun r _ => r = r0) (gE (dC, dI) vwCl (gT cI cZ cG) (w_X8_keep cI cZ cG o o_text o_kind o_size o_readJar o_page o_trial o_book o_kept o_isKept o_tastedFrom o_tastedTo o_order o_spots o_gains o_value n_thrown v_textSize v_place v_jars v_readPlaces v_readJars v_acts v_tasted v_seed v_some v_rowMany v_rowWay v_stuffWhich v_stuffNear v_keptMany v_keptFirst v_restMany v_restFirst f_page n_kept n_isKept) A) A) (([Value.ref o, Value.int a1] : List Value).toArray) s 0 0 A := ⟨_, rfl⟩
  have hl := lv_entry ([.ref o, .int a1]) (n := 3) (Nat.le_of_ble_eq_true rfl)
  rw [← hQ, lg_entry_eq]
  generalize (lg_sl ([.ref o, .int a1]) ++ List.replicate (3 - (lg_sl ([.ref o, .int a1])).length) Slot.unset).toArray = ls at hl ⊢
  have hl : lv_has ls 3 [(0, .ref o), (1, .int a1)] := hl
  generalize hH : s.heap = H at hP hS ⊢
  have hS : va_S A s.heap H [] := by rw [hH]; exact hS
  generalize hlc : ([] : List Loc) = locs at hS ⊢
  show W p l e rm_X8_keep s m (([Value.ref o, Value.int a1] : List Value).toArray) below meth c H locs 0 0 Q (F0 m 0 ls [])
  have L26 : ∀ (n26 : Nat), ∀ (x2 : Int32) (y_thrown : Int32) (y_kept : Nat → Int32) (y_isKept : Nat → Int32) (H : Heap) (locs : List Loc) (ls : Array Slot), x8_keep_b26 N f_page a1 n26 x2 y_thrown y_kept y_isKept = some (r0, n_thrown, n_kept, n_isKept) → lv_has ls 3 [(0, .ref o), (1, .int a1), (2, .int x2)] → va_P (dC, dI) vwCl (w_X8_keep cI cZ cG o o_text o_kind o_size o_readJar o_page o_trial o_book o_kept o_isKept o_tastedFrom o_tastedTo o_order o_spots o_gains o_value y_thrown v_textSize v_place v_jars v_readPlaces v_readJars v_acts v_tasted v_seed v_some v_rowMany v_rowWay v_stuffWhich v_stuffNear v_keptMany v_keptFirst v_restMany v_restFirst f_page y_kept y_isKept) H → va_D A (w_X8_keep cI cZ cG o o_text o_kind o_size o_readJar o_page o_trial o_book o_kept o_isKept o_tastedFrom o_tastedTo o_order o_spots o_gains o_value y_thrown v_textSize v_place v_jars v_readPlaces v_readJars v_acts v_tasted v_seed v_some v_rowMany v_rowWay v_stuffWhich v_stuffNear v_keptMany v_keptFirst v_restMany v_restFirst f_page y_kept y_isKept) → va_S A s.heap H locs → W p l e rm_X8_keep s m (([Value.ref o, Value.int a1] : List Value).toArray) below meth c H locs 0 0 Q (F0 m 26 ls []) := by
    intro n26
    induction n26 with
    | zero =>
      intro x2 y_thrown y_kept y_isKept H locs ls hf hl hP hD hS
      exact g_no hf
    | succ n26 ih26 =>
      intro x2 y_thrown y_kept y_isKept H locs ls hf hl hP hD hS
      unfold x8_keep_b26 at hf
      refine lv_iload_n hx hb dX8_keep_26 rfl (lv_at hl 2 rfl) ?_
      refine lv_bipush (v := (37 : Int32)) hx hb dX8_keep_27 (by decide +kernel) ?_
      refine lv_icmp_ge (tgt := 55) hx hb dX8_keep_29 (by decide) (fun c1 => ?_) (fun c1 => ?_)
      · have hf := g_pos c1 hf
        refine lv_aload_n hx hb dX8_keep_55 rfl (lv_at hl 0 rfl) ?_
        refine va_get (D := (dC, dI)) (ci := 8) (v := .ref o_page) (C := RX8) (T := TX8) (N := 33) hx hb hts hiX8 hown hK hP 0 rfl rfl 10 (by decide) (hts (.fieldLink RX8 22 "GreenJarsModel" "page" "[I") (by decide +kernel)) (fun _ h9 => h9) rfl dX8_keep_56 ?_
        refine lv_bipush (v := (36 : Int32)) hx hb dX8_keep_59 (by decide +kernel) ?_
        obtain ⟨h2, hf⟩ := g_chk hf
        refine va_iald hx hb hK hP 1 0 rfl rfl (gIn_vp h2) dX8_keep_61 ?_
        rw [hQ]
        cases hf
        exact W.iret hx hb hr (fun t ht hW => ⟨⟨_, (), rfl, rfl, by rw [ht]; exact hP, va_K.moved hW.alike hK, hD⟩, hS.F ht⟩) hS.2.2 dX8_keep_62
      · have hf := g_neg c1 hf
        refine lv_aload_n hx hb dX8_keep_32 rfl (lv_at hl 0 rfl) ?_
        refine va_get (D := (dC, dI)) (ci := 8) (v := .ref o_kept) (C := RX8) (T := TX8) (N := 33) hx hb hts hiX8 hown hK hP 0 rfl rfl 14 (by decide) (hts (.fieldLink RX8 31 "GreenJarsModel" "kept" "[I") (by decide +kernel)) (fun _ h9 => h9) rfl dX8_keep_33 ?_
        refine lv_bipush (v := (37 : Int32)) hx hb dX8_keep_36 (by decide +kernel) ?_
        refine lv_iload_n hx hb dX8_keep_38 rfl (lv_at hl 1 rfl) ?_
        refine lv_imul hx hb dX8_keep_39 ?_
        refine lv_iload_n hx hb dX8_keep_40 rfl (lv_at hl 2 rfl) ?_
        refine lv_iadd hx hb dX8_keep_41 ?_
        refine lv_aload_n hx hb dX8_keep_42 rfl (lv_at hl 0 rfl) ?_
        refine va_get (D := (dC, dI)) (ci := 8) (v := .ref o_page) (C := RX8) (T := TX8) (N := 33) hx hb hts hiX8 hown hK hP 0 rfl rfl 10 (by decide) (hts (.fieldLink RX8 22 "GreenJarsModel" "page" "[I") (by decide +kernel)) (fun _ h9 => h9) rfl dX8_keep_43 ?_
        refine lv_iload_n hx hb dX8_keep_46 rfl (lv_at hl 2 rfl) ?_
        obtain ⟨h3, hf⟩ := g_chk hf
        refine va_iald hx hb hK hP 1 0 rfl rfl (gIn_vp h3) dX8_keep_47 ?_
        obtain ⟨h4, hf⟩ := g_chk hf
        refine va_iast hx hb hK hP hD hS 2 0 rfl rfl (gIn_vp h4) dX8_keep_48 (fun H locs hP hD hS => ?_)
        have hP : va_P (dC, dI) vwCl (w_X8_keep cI cZ cG o o_text o_kind o_size o_readJar o_page o_trial o_book o_kept o_isKept o_tastedFrom o_tastedTo o_order o_spots o_gains o_value y_thrown v_textSize v_place v_jars v_readPlaces v_readJars v_acts v_tasted v_seed v_some v_rowMany v_rowWay v_stuffWhich v_stuffNear v_keptMany v_keptFirst v_restMany v_restFirst f_page (upd y_kept (((37 : Int32) * a1) + x2).toNatClampNeg (f_page x2.toNatClampNeg)) y_isKept) H := hP
        have hD : va_D A (w_X8_keep cI cZ cG o o_text o_kind o_size o_readJar o_page o_trial o_book o_kept o_isKept o_tastedFrom o_tastedTo o_order o_spots o_gains o_value y_thrown v_textSize v_place v_jars v_readPlaces v_readJars v_acts v_tasted v_seed v_some v_rowMany v_rowWay v_stuffWhich v_stuffNear v_keptMany v_keptFirst v_restMany v_restFirst f_page (upd y_kept (((37 : Int32) * a1) + x2).toNatClampNeg (f_page x2.toNatClampNeg)) y_isKept) := hD
        refine lv_iinc (v := (x2 + (1 : Int32))) (lv' := [(2, .int (x2 + (1 : Int32))), (0, .ref o), (1, .int a1)]) hx hb dX8_keep_49 hl (k := 2) rfl rfl (by decide) rfl (fun ls hl => ?_)
        refine lv_goto (tgt := 26) hx hb dX8_keep_52 (by decide) ?_
        exact ih26 (x2 + (1 : Int32)) y_thrown (upd y_kept (((37 : Int32) * a1) + x2).toNatClampNeg (f_page x2.toNatClampNeg)) y_isKept H locs ls hf (lv_sub hl [1, 2, 0] rfl) hP hD hS
  unfold x8_keep at hf
  refine lv_aload_n hx hb dX8_keep_0 rfl (lv_at hl 0 rfl) ?_
  refine lv_iconst (v := (0 : Int32)) hx hb dX8_keep_1 (by decide) ?_
  refine va_put (D := (dC, dI)) (ci := 8) (v := .int (0 : Int32)) (ty := .int) (C := RX8) (T := TX8) (N := 33) hx hb hts hiX8 tyX8 tyX8_ok nmX8 hown hK hP hD hS 0 rfl rfl 0 (by decide) (hts (.fieldLink RX8 56 "GreenJarsModel" "thrown" "I") (by decide +kernel)) (fun _ h9 => h9) rfl (by decide +kernel) rfl rfl (Nat.le_of_ble_eq_true rfl) dX8_keep_2 (fun H locs hP hD hS => ?_)
  have hP : va_P (dC, dI) vwCl (w_X8_keep cI cZ cG o o_text o_kind o_size o_readJar o_page o_trial o_book o_kept o_isKept o_tastedFrom o_tastedTo o_order o_spots o_gains o_value (0 : Int32) v_textSize v_place v_jars v_readPlaces v_readJars v_acts v_tasted v_seed v_some v_rowMany v_rowWay v_stuffWhich v_stuffNear v_keptMany v_keptFirst v_restMany v_restFirst f_page f_kept f_isKept) H := hP
  have hD : va_D A (w_X8_keep cI cZ cG o o_text o_kind o_size o_readJar o_page o_trial o_book o_kept o_isKept o_tastedFrom o_tastedTo o_order o_spots o_gains o_value (0 : Int32) v_textSize v_place v_jars v_readPlaces v_readJars v_acts v_tasted v_seed v_some v_rowMany v_rowWay v_stuffWhich v_stuffNear v_keptMany v_keptFirst v_restMany v_restFirst f_page f_kept f_isKept) := hD
  refine lv_iload_n hx hb dX8_keep_5 rfl (lv_at hl 1 rfl) ?_
  refine lv_i2l hx hb dX8_keep_6 rfl ?_
  refine lv_lconst (v := (0 : Int64)) hx hb dX8_keep_7 (by decide) ?_
  refine lv_lconst (v := (1 : Int64)) hx hb dX8_keep_8 (by decide) ?_
  obtain ⟨r5, hc6, hf⟩ := g_b1 hf
  refine g_rS (As := [.long a1.toInt64, .long (0 : Int64), .long (1 : Int64)]) (rest := []) ⟨hx, hb, hml, hown, hts⟩ (c_X8_in l dC dI cI cZ cG    a1.toInt64 (0 : Int64) (1 : Int64) hc6) (va_cwS 3 hts gX8_keep_X8_in rfl rfl rfl (by decide +kernel) ⟨Nat.le_of_ble_eq_true rfl, Nat.le_of_ble_eq_true rfl⟩) hK hN (hP.sub [] rfl) rfl hl.1 rfl (Nat.le_of_ble_eq_true rfl) dX8_keep_9 ⟨Nat.zero_le _, Nat.zero_le _⟩ ?_
  refine lv_if_ne (tgt := 17) hx hb dX8_keep_12 (by decide) (fun c7 => ?_) (fun c7 => ?_)
  · have hf := g_neg c7 hf
    refine lv_aload_n hx hb dX8_keep_17 rfl (lv_at hl 0 rfl) ?_
    refine va_get (D := (dC, dI)) (ci := 8) (v := .ref o_isKept) (C := RX8) (T := TX8) (N := 33) hx hb hts hiX8 hown hK hP 0 rfl rfl 15 (by decide) (hts (.fieldLink RX8 34 "GreenJarsModel" "isKept" "[Z") (by decide +kernel)) (fun _ h9 => h9) rfl dX8_keep_18 ?_
    refine lv_iload_n hx hb dX8_keep_21 rfl (lv_at hl 1 rfl) ?_
    refine lv_iconst (v := (1 : Int32)) hx hb dX8_keep_22 (by decide) ?_
    obtain ⟨h8, hf⟩ := g_chk hf
    refine va_zast hx hb hK hP hD hS 3 1 rfl rfl (gIn_vp h8) dX8_keep_23 (fun H locs hP hD hS => ?_)
    have hP : va_P (dC, dI) vwCl (w_X8_keep cI cZ cG o o_text o_kind o_size o_readJar o_page o_trial o_book o_kept o_isKept o_tastedFrom o_tastedTo o_order o_spots o_gains o_value (0 : Int32) v_textSize v_place v_jars v_readPlaces v_readJars v_acts v_tasted v_seed v_some v_rowMany v_rowWay v_stuffWhich v_stuffNear v_keptMany v_keptFirst v_restMany v_restFirst f_page f_kept (upd f_isKept a1.toNatClampNeg (vp_nar .boolean (1 : Int32)))) H := hP
    have hD : va_D A (w_X8_keep cI cZ cG o o_text o_kind o_size o_readJar o_page o_trial o_book o_kept o_isKept o_tastedFrom o_tastedTo o_order o_spots o_gains o_value (0 : Int32) v_textSize v_place v_jars v_readPlaces v_readJars v_acts v_tasted v_seed v_some v_rowMany v_rowWay v_stuffWhich v_stuffNear v_keptMany v_keptFirst v_restMany v_restFirst f_page f_kept (upd f_isKept a1.toNatClampNeg (vp_nar .boolean (1 : Int32)))) := hD
    refine lv_iconst (v := (0 : Int32)) hx hb dX8_keep_24 (by decide) ?_
    refine lv_istore_n (lv' := [(2, .int (0 : Int32)), (0, .ref o), (1, .int a1)]) hx hb dX8_keep_25 rfl hl (by decide) rfl (fun ls hl => ?_)
    exact L26 N (0 : Int32) (0 : Int32) f_kept (upd f_isKept a1.toNatClampNeg (vp_nar .boolean (1 : Int32))) H locs ls hf (lv_sub hl [1, 2, 0] rfl) hP hD hS
  · have hf := g_pos c7 hf
    refine lv_iconst (v := (-1 : Int32)) hx hb dX8_keep_15 (by decide) ?_
    rw [hQ]
    cases hf
    exact W.iret hx hb hr (fun t ht hW => ⟨⟨_, (), rfl, rfl, by rw [ht]; exact hP, va_K.moved hW.alike hK, hD⟩, hS.F ht⟩) hS.2.2 dX8_keep_16
abbrev rm_X8_again : Room := { frames := 1, cells := 0, slots := 0, locals := 25 }
abbrev w_X8_again (cI cZ cG : ClassId) (o : Nat) (o_text : Nat) (o_kind : Nat) (o_size : Nat) (o_readJar : Nat) (o_page : Nat) (o_trial : Nat) (o_book : Nat) (o_kept : Nat) (o_isKept : Nat) (o_tastedFrom : Nat) (o_tastedTo : Nat) (o_order : Nat) (o_spots : Nat) (o_gains : Nat) (o_value : Nat) (v_thrown : Int32) (v_textSize : Int32) (v_place : Int32) (v_jars : Int32) (v_readPlaces : Int32) (v_readJars : Int32) (v_acts : Int32) (v_tasted : Int32) (v_seed : Int64) (v_some : Int32) (v_rowMany : Int32) (v_rowWay : Int32) (v_stuffWhich : Int32) (v_stuffNear : Int32) (v_keptMany : Int32) (v_keptFirst : Int32) (v_restMany : Int32) (v_restFirst : Int32) (f_page : Nat → Int32) (f_kept : Nat → Int32) (f_isKept : Nat → Int32) : va_W := [(o, .inr (8, [.int v_thrown, .ref o_text, .int v_textSize, .int v_place, .int v_jars, .ref o_kind, .ref o_size, .int v_readPlaces, .int v_readJars, .ref o_readJar, .ref o_page, .ref o_trial, .ref o_book, .int v_acts, .ref o_kept, .ref o_isKept, .int v_tasted, .ref o_tastedFrom, .ref o_tastedTo, .long v_seed, .int v_some, .ref o_order, .ref o_spots, .int v_rowMany, .int v_rowWay, .int v_stuffWhich, .int v_stuffNear, .int v_keptMany, .int v_keptFirst, .int v_restMany, .int v_restFirst, .ref o_gains, .ref o_value])), (o_page, .inl (cI, 37, .inl f_page)), (o_kept, .inl (cI, 74, .inl f_kept)), (o_isKept, .inl (cZ, 2, .inl f_isKept))]
set_option maxHeartbeats 4000000 in
set_option maxRecDepth 100000 in
theorem c_X8_again (l : Launch) (dC : Nat → ClassId) (dI : Nat → Nat → Nat) (cI cZ cG : ClassId) {N : Nat} (o : Nat) (o_text : Nat) (o_kind : Nat) (o_size : Nat) (o_readJar : Nat) (o_page : Nat) (o_trial : Nat) (o_book : Nat) (o_kept : Nat) (o_isKept : Nat) (o_tastedFrom : Nat) (o_tastedTo : Nat) (o_order : Nat) (o_spots : Nat) (o_gains : Nat) (o_value : Nat) (sz : Nat) (v_thrown : Int32) (v_textSize : Int32) (v_place : Int32) (v_jars : Int32) (v_readPlaces : Int32) (v_readJars : Int32) (v_acts : Int32) (v_tasted : Int32) (v_seed : Int64) (v_some : Int32) (v_rowMany : Int32) (v_rowWay : Int32) (v_stuffWhich : Int32) (v_stuffNear : Int32) (v_keptMany : Int32) (v_keptFirst : Int32) (v_restMany : Int32) (v_restFirst : Int32) (f_page : Nat → Int32) (f_kept : Nat → Int32) (f_isKept : Nat → Int32) (a1 : Int32) {r0 : Int32} {n_thrown : Int32} {n_acts : Int32} {n_page : Nat → Int32} (hf : x8_again N v_thrown v_acts f_page f_kept f_isKept a1 = some (r0, n_thrown, n_acts, n_page)) : Met l yX8_again wsX8_again rm_X8_again (va_Pc [.ref o, .int a1] (gW (dC, dI) vwCl (gT cI cZ cG) (w_X8_again cI cZ cG o o_text o_kind o_size o_readJar o_page o_trial o_book o_kept o_isKept o_tastedFrom o_tastedTo o_order o_spots o_gains o_value v_thrown v_textSize v_place v_jars v_readPlaces v_readJars v_acts v_tasted v_seed v_some v_rowMany v_rowWay v_stuffWhich v_stuffNear v_keptMany v_keptFirst v_restMany v_restFirst f_page f_kept f_isKept) sz)) (va_Qi (fun r _ => r = r0) (gE (dC, dI) vwCl (gT cI cZ cG) (w_X8_again cI cZ cG o o_text o_kind o_size o_readJar o_page o_trial o_book o_kept o_isKept o_tastedFrom o_tastedTo o_order o_spots o_gains o_value n_thrown v_textSize v_place v_jars v_readPlaces v_readJars n_acts v_tasted v_seed v_some v_rowMany v_rowWay v_stuffWhich v_stuffNear v_keptMany v_keptFirst v_restMany v_restFirst n_page f_kept f_isKept) (va_A (w_X8_again cI cZ cG o o_text o_kind o_size o_readJar o_page o_trial o_book o_kept o_isKept o_tastedFrom o_tastedTo o_order o_spots o_gains o_value v_thrown v_textSize v_place v_jars v_readPlaces v_readJars v_acts v_tasted v_seed v_some v_rowMany v_rowWay v_stuffWhich v_stuffNear v_keptMany v_keptFirst v_restMany v_restFirst f_page f_kept f_isKept) sz)) (va_A (w_X8_again cI cZ cG o o_text o_kind o_size o_readJar o_page o_trial o_book o_kept o_isKept o_tastedFrom o_tastedTo o_order o_spots o_gains o_value v_thrown v_textSize v_place v_jars v_readPlaces v_readJars v_acts v_tasted v_seed v_some v_rowMany v_rowWay v_stuffWhich v_stuffNear v_keptMany v_keptFirst v_restMany v_restFirst f_page f_kept f_isKept) sz)) 0 0 (va_A (w_X8_again cI cZ cG o o_text o_kind o_size o_readJar o_page o_trial o_book o_kept o_isKept o_tastedFrom o_tastedTo o_order o_spots o_gains o_value v_thrown v_textSize v_place v_jars v_readPlaces v_readJars v_acts v_tasted v_seed v_some v_rowMany v_rowWay v_stuffWhich v_stuffNear v_keptMany v_keptFirst v_restMany v_restFirst f_page f_kept f_isKept) sz) := by
  refine Met.ofW (cc := cX8_again) (maxL := 3) (ret := (some .int)) (by decide) rfl ?_
  intro p e s m args below meth c s₁ B hml hv
  obtain ⟨rfl, hv⟩ := hv
  obtain ⟨hsz, hP, hK, hN, hD0⟩ := hv
  have hx := B.exec
  have hb := B.bytes
  have hr := B.returns
  have hts := atoms_spec (ws := wsX8_again) B.pre
  have hown : s.vm.findClass RX8 = some m.cls := findClass_of_methodNamed B.named
  have hlocks := B.notSynchronized
  have hiX8 : ∀ w ∈ u_ws RX8 TX8 33, w ∈ wsX8_again := fun w h => List.mem_cons_of_mem _ (List.mem_append_right _ h)
  subst hsz
  have hD := hD0.self (sz := s.heap.size)
  generalize hAe : va_A (w_X8_again cI cZ cG o o_text o_kind o_size o_readJar o_page o_trial o_book o_kept o_isKept o_tastedFrom o_tastedTo o_order o_spots o_gains o_value v_thrown v_textSize v_place v_jars v_readPlaces v_readJars v_acts v_tasted v_seed v_some v_rowMany v_rowWay v_stuffWhich v_stuffNear v_keptMany v_keptFirst v_restMany v_restFirst f_page f_kept f_isKept) s.heap.size = A at hD ⊢
  have hA : ∀ q : Nat, s.heap.size ≤ q → A q := fun q h => by rw [← hAe]; exact Or.inr h
  clear hD0
  have hS : va_S A s.heap s.heap [] := va_S.rf
  have hP : va_P (dC, dI) vwCl (w_X8_again cI cZ cG o o_text o_kind o_size o_readJar o_page o_trial o_book o_kept o_isKept o_tastedFrom o_tastedTo o_order o_spots o_gains o_value v_thrown v_textSize v_place v_jars v_readPlaces v_readJars v_acts v_tasted v_seed v_some v_rowMany v_rowWay v_stuffWhich v_stuffNear v_keptMany v_keptFirst v_restMany v_restFirst f_page f_kept f_isKept) s.heap := hP
  obtain ⟨Q, hQ⟩ : ∃ Q : State → Prop, Q = MQ below (va_Qi (fun r _ => r = r0) (gE (dC, dI) vwCl (gT cI cZ cG) (w_X8_again cI cZ cG o o_text o_kind o_size o_readJar o_page o_trial o_book o_kept o_isKept o_tastedFrom o_tastedTo o_order o_spots o_gains o_value n_thrown v_textSize v_place v_jars v_readPlaces v_readJars n_acts v_tasted v_seed v_some v_rowMany v_rowWay v_stuffWhich v_stuffNear v_keptMany v_keptFirst v_restMany v_restFirst n_page f_kept f_isKept) A) A) (([Value.ref o, Value.int a1] : List Value).toArray) s 0 0 A := ⟨_, rfl⟩
  have hl := lv_entry ([.ref o, .int a1]) (n := 3) (Nat.le_of_ble_eq_true rfl)
  rw [← hQ, lg_entry_eq]
  generalize (lg_sl ([.ref o, .int a1]) ++ List.replicate (3 - (lg_sl ([.ref o, .int a1])).length) Slot.unset).toArray = ls at hl ⊢
  have hl : lv_has ls 3 [(0, .ref o), (1, .int a1)] := hl
  generalize hH : s.heap = H at hP hS ⊢
  have hS : va_S A s.heap H [] := by rw [hH]; exact hS
  generalize hlc : ([] : List Loc) = locs at hS ⊢
  show W p l e rm_X8_again s m (([Value.ref o, Value.int a1] : List Value).toArray) below meth c H locs 0 0 Q (F0 m 0 ls [])
  have L31 : ∀ (n31 : Nat), ∀ (x2 : Int32) (y_thrown : Int32) (y_acts : Int32) (y_page : Nat → Int32) (H : Heap) (locs : List Loc) (ls : Array Slot), x8_again_b31 N f_kept f_isKept a1 n31 x2 y_thrown y_acts y_page = some (r0, n_thrown, n_acts, n_page) → lv_has ls 3 [(0, .ref o), (1, .int a1), (2, .int x2)] → va_P (dC, dI) vwCl (w_X8_again cI cZ cG o o_text o_kind o_size o_readJar o_page o_trial o_book o_kept o_isKept o_tastedFrom o_tastedTo o_order o_spots o_gains o_value y_thrown v_textSize v_place v_jars v_readPlaces v_readJars y_acts v_tasted v_seed v_some v_rowMany v_rowWay v_stuffWhich v_stuffNear v_keptMany v_keptFirst v_restMany v_restFirst y_page f_kept f_isKept) H → va_D A (w_X8_again cI cZ cG o o_text o_kind o_size o_readJar o_page o_trial o_book o_kept o_isKept o_tastedFrom o_tastedTo o_order o_spots o_gains o_value y_thrown v_textSize v_place v_jars v_readPlaces v_readJars y_acts v_tasted v_seed v_some v_rowMany v_rowWay v_stuffWhich v_stuffNear v_keptMany v_keptFirst v_restMany v_restFirst y_page f_kept f_isKept) → va_S A s.heap H locs → W p l e rm_X8_again s m (([Value.ref o, Value.int a1] : List Value).toArray) below meth c H locs 0 0 Q (F0 m 31 ls []) := by
    intro n31
    induction n31 with
    | zero =>
      intro x2 y_thrown y_acts y_page H locs ls hf hl hP hD hS
      exact g_no hf
    | succ n31 ih31 =>
      intro x2 y_thrown y_acts y_page H locs ls hf hl hP hD hS
      unfold x8_again_b31 at hf
      refine lv_iload_n hx hb dX8_again_31 rfl (lv_at hl 2 rfl) ?_
      refine lv_bipush (v := (37 : Int32)) hx hb dX8_again_32 (by decide +kernel) ?_
      refine lv_icmp_ge (tgt := 60) hx hb dX8_again_34 (by decide) (fun c1 => ?_) (fun c1 => ?_)
      · have hf := g_pos c1 hf
        refine lv_aload_n hx hb dX8_again_60 rfl (lv_at hl 0 rfl) ?_
        refine lv_iconst (v := (0 : Int32)) hx hb dX8_again_61 (by decide) ?_
        refine va_put (D := (dC, dI)) (ci := 8) (v := .int (0 : Int32)) (ty := .int) (C := RX8) (T := TX8) (N := 33) hx hb hts hiX8 tyX8 tyX8_ok nmX8 hown hK hP hD hS 0 rfl rfl 13 (by decide) (hts (.fieldLink RX8 99 "GreenJarsModel" "acts" "I") (by decide +kernel)) (fun _ h9 => h9) rfl (by decide +kernel) rfl rfl (Nat.le_of_ble_eq_true rfl) dX8_again_62 (fun H locs hP hD hS => ?_)
        have hP : va_P (dC, dI) vwCl (w_X8_again cI cZ cG o o_text o_kind o_size o_readJar o_page o_trial o_book o_kept o_isKept o_tastedFrom o_tastedTo o_order o_spots o_gains o_value y_thrown v_textSize v_place v_jars v_readPlaces v_readJars (0 : Int32) v_tasted v_seed v_some v_rowMany v_rowWay v_stuffWhich v_stuffNear v_keptMany v_keptFirst v_restMany v_restFirst y_page f_kept f_isKept) H := hP
        have hD : va_D A (w_X8_again cI cZ cG o o_text o_kind o_size o_readJar o_page o_trial o_book o_kept o_isKept o_tastedFrom o_tastedTo o_order o_spots o_gains o_value y_thrown v_textSize v_place v_jars v_readPlaces v_readJars (0 : Int32) v_tasted v_seed v_some v_rowMany v_rowWay v_stuffWhich v_stuffNear v_keptMany v_keptFirst v_restMany v_restFirst y_page f_kept f_isKept) := hD
        refine lv_aload_n hx hb dX8_again_65 rfl (lv_at hl 0 rfl) ?_
        refine va_get (D := (dC, dI)) (ci := 8) (v := .ref o_page) (C := RX8) (T := TX8) (N := 33) hx hb hts hiX8 hown hK hP 0 rfl rfl 10 (by decide) (hts (.fieldLink RX8 22 "GreenJarsModel" "page" "[I") (by decide +kernel)) (fun _ h9 => h9) rfl dX8_again_66 ?_
        refine lv_bipush (v := (36 : Int32)) hx hb dX8_again_69 (by decide +kernel) ?_
        obtain ⟨h2, hf⟩ := g_chk hf
        refine va_iald hx hb hK hP 1 0 rfl rfl (gIn_vp h2) dX8_again_71 ?_
        rw [hQ]
        cases hf
        exact W.iret hx hb hr (fun t ht hW => ⟨⟨_, (), rfl, rfl, by rw [ht]; exact hP, va_K.moved hW.alike hK, hD⟩, hS.F ht⟩) hS.2.2 dX8_again_72
      · have hf := g_neg c1 hf
        refine lv_aload_n hx hb dX8_again_37 rfl (lv_at hl 0 rfl) ?_
        refine va_get (D := (dC, dI)) (ci := 8) (v := .ref o_page) (C := RX8) (T := TX8) (N := 33) hx hb hts hiX8 hown hK hP 0 rfl rfl 10 (by decide) (hts (.fieldLink RX8 22 "GreenJarsModel" "page" "[I") (by decide +kernel)) (fun _ h9 => h9) rfl dX8_again_38 ?_
        refine lv_iload_n hx hb dX8_again_41 rfl (lv_at hl 2 rfl) ?_
        refine lv_aload_n hx hb dX8_again_42 rfl (lv_at hl 0 rfl) ?_
        refine va_get (D := (dC, dI)) (ci := 8) (v := .ref o_kept) (C := RX8) (T := TX8) (N := 33) hx hb hts hiX8 hown hK hP 0 rfl rfl 14 (by decide) (hts (.fieldLink RX8 31 "GreenJarsModel" "kept" "[I") (by decide +kernel)) (fun _ h9 => h9) rfl dX8_again_43 ?_
        refine lv_bipush (v := (37 : Int32)) hx hb dX8_again_46 (by decide +kernel) ?_
        refine lv_iload_n hx hb dX8_again_48 rfl (lv_at hl 1 rfl) ?_
        refine lv_imul hx hb dX8_again_49 ?_
        refine lv_iload_n hx hb dX8_again_50 rfl (lv_at hl 2 rfl) ?_
        refine lv_iadd hx hb dX8_again_51 ?_
        obtain ⟨h3, hf⟩ := g_chk hf
        refine va_iald hx hb hK hP 2 0 rfl rfl (gIn_vp h3) dX8_again_52 ?_
        obtain ⟨h4, hf⟩ := g_chk hf
        refine va_iast hx hb hK hP hD hS 1 0 rfl rfl (gIn_vp h4) dX8_again_53 (fun H locs hP hD hS => ?_)
        have hP : va_P (dC, dI) vwCl (w_X8_again cI cZ cG o o_text o_kind o_size o_readJar o_page o_trial o_book o_kept o_isKept o_tastedFrom o_tastedTo o_order o_spots o_gains o_value y_thrown v_textSize v_place v_jars v_readPlaces v_readJars y_acts v_tasted v_seed v_some v_rowMany v_rowWay v_stuffWhich v_stuffNear v_keptMany v_keptFirst v_restMany v_restFirst (upd y_page x2.toNatClampNeg (f_kept (((37 : Int32) * a1) + x2).toNatClampNeg)) f_kept f_isKept) H := hP
        have hD : va_D A (w_X8_again cI cZ cG o o_text o_kind o_size o_readJar o_page o_trial o_book o_kept o_isKept o_tastedFrom o_tastedTo o_order o_spots o_gains o_value y_thrown v_textSize v_place v_jars v_readPlaces v_readJars y_acts v_tasted v_seed v_some v_rowMany v_rowWay v_stuffWhich v_stuffNear v_keptMany v_keptFirst v_restMany v_restFirst (upd y_page x2.toNatClampNeg (f_kept (((37 : Int32) * a1) + x2).toNatClampNeg)) f_kept f_isKept) := hD
        refine lv_iinc (v := (x2 + (1 : Int32))) (lv' := [(2, .int (x2 + (1 : Int32))), (0, .ref o), (1, .int a1)]) hx hb dX8_again_54 hl (k := 2) rfl rfl (by decide) rfl (fun ls hl => ?_)
        refine lv_goto (tgt := 31) hx hb dX8_again_57 (by decide) ?_
        exact ih31 (x2 + (1 : Int32)) y_thrown y_acts (upd y_page x2.toNatClampNeg (f_kept (((37 : Int32) * a1) + x2).toNatClampNeg)) H locs ls hf (lv_sub hl [1, 2, 0] rfl) hP hD hS
  unfold x8_again at hf
  refine lv_aload_n hx hb dX8_again_0 rfl (lv_at hl 0 rfl) ?_
  refine lv_iconst (v := (0 : Int32)) hx hb dX8_again_1 (by decide) ?_
  refine va_put (D := (dC, dI)) (ci := 8) (v := .int (0 : Int32)) (ty := .int) (C := RX8) (T := TX8) (N := 33) hx hb hts hiX8 tyX8 tyX8_ok nmX8 hown hK hP hD hS 0 rfl rfl 0 (by decide) (hts (.fieldLink RX8 56 "GreenJarsModel" "thrown" "I") (by decide +kernel)) (fun _ h9 => h9) rfl (by decide +kernel) rfl rfl (Nat.le_of_ble_eq_true rfl) dX8_again_2 (fun H locs hP hD hS => ?_)
  have hP : va_P (dC, dI) vwCl (w_X8_again cI cZ cG o o_text o_kind o_size o_readJar o_page o_trial o_book o_kept o_isKept o_tastedFrom o_tastedTo o_order o_spots o_gains o_value (0 : Int32) v_textSize v_place v_jars v_readPlaces v_readJars v_acts v_tasted v_seed v_some v_rowMany v_rowWay v_stuffWhich v_stuffNear v_keptMany v_keptFirst v_restMany v_restFirst f_page f_kept f_isKept) H := hP
  have hD : va_D A (w_X8_again cI cZ cG o o_text o_kind o_size o_readJar o_page o_trial o_book o_kept o_isKept o_tastedFrom o_tastedTo o_order o_spots o_gains o_value (0 : Int32) v_textSize v_place v_jars v_readPlaces v_readJars v_acts v_tasted v_seed v_some v_rowMany v_rowWay v_stuffWhich v_stuffNear v_keptMany v_keptFirst v_restMany v_restFirst f_page f_kept f_isKept) := hD
  refine lv_iload_n hx hb dX8_again_5 rfl (lv_at hl 1 rfl) ?_
  refine lv_i2l hx hb dX8_again_6 rfl ?_
  refine lv_lconst (v := (0 : Int64)) hx hb dX8_again_7 (by decide) ?_
  refine lv_lconst (v := (1 : Int64)) hx hb dX8_again_8 (by decide) ?_
  obtain ⟨r5, hc6, hf⟩ := g_b1 hf
  refine g_rS (As := [.long a1.toInt64, .long (0 : Int64), .long (1 : Int64)]) (rest := []) ⟨hx, hb, hml, hown, hts⟩ (c_X8_in l dC dI cI cZ cG    a1.toInt64 (0 : Int64) (1 : Int64) hc6) (va_cwS 3 hts gX8_again_X8_in rfl rfl rfl (by decide +kernel) ⟨Nat.le_of_ble_eq_true rfl, Nat.le_of_ble_eq_true rfl⟩) hK hN (hP.sub [] rfl) rfl hl.1 rfl (Nat.le_of_ble_eq_true rfl) dX8_again_9 ⟨Nat.zero_le _, Nat.zero_le _⟩ ?_
  refine lv_if_ne (tgt := 17) hx hb dX8_again_12 (by decide) (fun c7 => ?_) (fun c7 => ?_)
  · have hf := g_neg c7 hf
    refine lv_aload_n hx hb dX8_again_17 rfl (lv_at hl 0 rfl) ?_
    refine va_get (D := (dC, dI)) (ci := 8) (v := .ref o_isKept) (C := RX8) (T := TX8) (N := 33) hx hb hts hiX8 hown hK hP 0 rfl rfl 15 (by decide) (hts (.fieldLink RX8 34 "GreenJarsModel" "isKept" "[Z") (by decide +kernel)) (fun _ h9 => h9) rfl dX8_again_18 ?_
    refine lv_iload_n hx hb dX8_again_21 rfl (lv_at hl 1 rfl) ?_
    obtain ⟨h8, hf⟩ := g_chk hf
    refine va_zald hx hb hK hP 3 1 rfl rfl (gIn_vp h8) dX8_again_22 ?_
    refine lv_if_ne (tgt := 29) hx hb dX8_again_23 (by decide) (fun c9 => ?_) (fun c9 => ?_)
    · have hf := g_neg c9 hf
      refine lv_iconst (v := (0 : Int32)) hx hb dX8_again_29 (by decide) ?_
      refine lv_istore_n (lv' := [(2, .int (0 : Int32)), (0, .ref o), (1, .int a1)]) hx hb dX8_again_30 rfl hl (by decide) rfl (fun ls hl => ?_)
      exact L31 N (0 : Int32) (0 : Int32) v_acts f_page H locs ls hf (lv_sub hl [1, 2, 0] rfl) hP hD hS
    · have hf := g_pos c9 hf
      refine lv_bipush (v := (-3 : Int32)) hx hb dX8_again_26 (by decide +kernel) ?_
      rw [hQ]
      cases hf
      exact W.iret hx hb hr (fun t ht hW => ⟨⟨_, (), rfl, rfl, by rw [ht]; exact hP, va_K.moved hW.alike hK, hD⟩, hS.F ht⟩) hS.2.2 dX8_again_28
  · have hf := g_pos c7 hf
    refine lv_iconst (v := (-1 : Int32)) hx hb dX8_again_15 (by decide) ?_
    rw [hQ]
    cases hf
    exact W.iret hx hb hr (fun t ht hW => ⟨⟨_, (), rfl, rfl, by rw [ht]; exact hP, va_K.moved hW.alike hK, hD⟩, hS.F ht⟩) hS.2.2 dX8_again_16
