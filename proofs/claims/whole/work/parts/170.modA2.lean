abbrev rm_X8_goWeeks : Room := { frames := 2, cells := 0, slots := 0, locals := 44 }
abbrev w_X8_goWeeks (cI cZ cG : ClassId) (o : Nat) (o_text : Nat) (o_kind : Nat) (o_size : Nat) (o_readJar : Nat) (o_page : Nat) (o_trial : Nat) (o_book : Nat) (o_kept : Nat) (o_isKept : Nat) (o_tastedFrom : Nat) (o_tastedTo : Nat) (o_order : Nat) (o_spots : Nat) (o_gains : Nat) (o_value : Nat) (v_thrown : Int32) (v_textSize : Int32) (v_place : Int32) (v_jars : Int32) (v_readPlaces : Int32) (v_readJars : Int32) (v_acts : Int32) (v_tasted : Int32) (v_seed : Int64) (v_some : Int32) (v_rowMany : Int32) (v_rowWay : Int32) (v_stuffWhich : Int32) (v_stuffNear : Int32) (v_keptMany : Int32) (v_keptFirst : Int32) (v_restMany : Int32) (v_restFirst : Int32) (f_kind : Nat → Int32) (f_trial : Nat → Int32) : va_W := [(o, .inr (8, [.int v_thrown, .ref o_text, .int v_textSize, .int v_place, .int v_jars, .ref o_kind, .ref o_size, .int v_readPlaces, .int v_readJars, .ref o_readJar, .ref o_page, .ref o_trial, .ref o_book, .int v_acts, .ref o_kept, .ref o_isKept, .int v_tasted, .ref o_tastedFrom, .ref o_tastedTo, .long v_seed, .int v_some, .ref o_order, .ref o_spots, .int v_rowMany, .int v_rowWay, .int v_stuffWhich, .int v_stuffNear, .int v_keptMany, .int v_keptFirst, .int v_restMany, .int v_restFirst, .ref o_gains, .ref o_value])), (o_kind, .inl (cI, 6, .inl f_kind)), (o_trial, .inl (cI, 37, .inl f_trial))]
set_option maxHeartbeats 4000000 in
set_option maxRecDepth 100000 in
theorem c_X8_goWeeks (l : Launch) (dC : Nat → ClassId) (dI : Nat → Nat → Nat) (cI cZ cG : ClassId) {N : Nat} (o : Nat) (o_text : Nat) (o_kind : Nat) (o_size : Nat) (o_readJar : Nat) (o_page : Nat) (o_trial : Nat) (o_book : Nat) (o_kept : Nat) (o_isKept : Nat) (o_tastedFrom : Nat) (o_tastedTo : Nat) (o_order : Nat) (o_spots : Nat) (o_gains : Nat) (o_value : Nat) (sz : Nat) (v_thrown : Int32) (v_textSize : Int32) (v_place : Int32) (v_jars : Int32) (v_readPlaces : Int32) (v_readJars : Int32) (v_acts : Int32) (v_tasted : Int32) (v_seed : Int64) (v_some : Int32) (v_rowMany : Int32) (v_rowWay : Int32) (v_stuffWhich : Int32) (v_stuffNear : Int32) (v_keptMany : Int32) (v_keptFirst : Int32) (v_restMany : Int32) (v_restFirst : Int32) (f_kind : Nat → Int32) (f_trial : Nat → Int32) (a1 : Int32) {n_trial : Nat → Int32} (hf : x8_goWeeks N v_jars f_kind f_trial a1 = some n_trial) : Met l yX8_goWeeks wsX8_goWeeks rm_X8_goWeeks (va_Pc [.ref o, .int a1] (gW (dC, dI) vwCl (gT cI cZ cG) (w_X8_goWeeks cI cZ cG o o_text o_kind o_size o_readJar o_page o_trial o_book o_kept o_isKept o_tastedFrom o_tastedTo o_order o_spots o_gains o_value v_thrown v_textSize v_place v_jars v_readPlaces v_readJars v_acts v_tasted v_seed v_some v_rowMany v_rowWay v_stuffWhich v_stuffNear v_keptMany v_keptFirst v_restMany v_restFirst f_kind f_trial) sz)) (va_Qv (fun _ => True) (gE (dC, dI) vwCl (gT cI cZ cG) (w_X8_goWeeks cI cZ cG o o_text o_kind o_size o_readJar o_page o_trial o_book o_kept o_isKept o_tastedFrom o_tastedTo o_order o_spots o_gains o_value v_thrown v_textSize v_place v_jars v_readPlaces v_readJars v_acts v_tasted v_seed v_some v_rowMany v_rowWay v_stuffWhich v_stuffNear v_keptMany v_keptFirst v_restMany v_restFirst f_kind n_trial) (va_A (w_X8_goWeeks cI cZ cG o o_text o_kind o_size o_readJar o_page o_trial o_book o_kept o_isKept o_tastedFrom o_tastedTo o_order o_spots o_gains o_value v_thrown v_textSize v_place v_jars v_readPlaces v_readJars v_acts v_tasted v_seed v_some v_rowMany v_rowWay v_stuffWhich v_stuffNear v_keptMany v_keptFirst v_restMany v_restFirst f_kind f_trial) sz)) (va_A (w_X8_goWeeks cI cZ cG o o_text o_kind o_size o_readJar o_page o_trial o_book o_kept o_isKept o_tastedFrom o_tastedTo o_order o_spots o_gains o_value v_thrown v_textSize v_place v_jars v_readPlaces v_readJars v_acts v_tasted v_seed v_some v_rowMany v_rowWay v_stuffWhich v_stuffNear v_keptMany v_keptFirst v_restMany v_restFirst f_kind f_trial) sz)) 0 0 (va_A (w_X8_goWeeks cI cZ cG o o_text o_kind o_size o_readJar o_page o_trial o_book o_kept o_isKept o_tastedFrom o_tastedTo o_order o_spots o_gains o_value v_thrown v_textSize v_place v_jars v_readPlaces v_readJars v_acts v_tasted v_seed v_some v_rowMany v_rowWay v_stuffWhich v_stuffNear v_keptMany v_keptFirst v_restMany v_restFirst f_kind f_trial) sz) := by
  refine Met.ofW (cc := cX8_goWeeks) (maxL := 3) (ret := none) (by decide) rfl ?_
  intro p e s m args below meth c s₁ B hml hv
  obtain ⟨rfl, hv⟩ := hv
  obtain ⟨hsz, hP, hK, hN, hD0⟩ := hv
  have hx := B.exec
  have hb := B.bytes
  have hr := B.returns
  have hts := atoms_spec (ws := wsX8_goWeeks) B.pre
  have hown : s.vm.findClass RX8 = some m.cls := findClass_of_methodNamed B.named
  have hlocks := B.notSynchronized
  have hiX8 : ∀ w ∈ u_ws RX8 TX8 33, w ∈ wsX8_goWeeks := fun w h => List.mem_cons_of_mem _ (List.mem_append_right _ h)
  subst hsz
  have hD := hD0.self (sz := s.heap.size)
  generalize hAe : va_A (w_X8_goWeeks cI cZ cG o o_text o_kind o_size o_readJar o_page o_trial o_book o_kept o_isKept o_tastedFrom o_tastedTo o_order o_spots o_gains o_value v_thrown v_textSize v_place v_jars v_readPlaces v_readJars v_acts v_tasted v_seed v_some v_rowMany v_rowWay v_stuffWhich v_stuffNear v_keptMany v_keptFirst v_restMany v_restFirst f_kind f_trial) s.heap.size = A at hD ⊢
  have hA : ∀ q : Nat, s.heap.size ≤ q → A q := fun q h => by rw [← hAe]; exact Or.inr h
  clear hD0
  have hS : va_S A s.heap s.heap [] := va_S.rf
  have hP : va_P (dC, dI) vwCl (w_X8_goWeeks cI cZ cG o o_text o_kind o_size o_readJar o_page o_trial o_book o_kept o_isKept o_tastedFrom o_tastedTo o_order o_spots o_gains o_value v_thrown v_textSize v_place v_jars v_readPlaces v_readJars v_acts v_tasted v_seed v_some v_rowMany v_rowWay v_stuffWhich v_stuffNear v_keptMany v_keptFirst v_restMany v_restFirst f_kind f_trial) s.heap := hP
  obtain ⟨Q, hQ⟩ : ∃ Q : State → Prop, Q = MQ below (va_Qv (fun _ => True) (gE (dC, dI) vwCl (gT cI cZ cG) (w_X8_goWeeks cI cZ cG o o_text o_kind o_size o_readJar o_page o_trial o_book o_kept o_isKept o_tastedFrom o_tastedTo o_order o_spots o_gains o_value v_thrown v_textSize v_place v_jars v_readPlaces v_readJars v_acts v_tasted v_seed v_some v_rowMany v_rowWay v_stuffWhich v_stuffNear v_keptMany v_keptFirst v_restMany v_restFirst f_kind n_trial) A) A) (([Value.ref o, Value.int a1] : List Value).toArray) s 0 0 A := ⟨_, rfl⟩
  have hl := lv_entry ([.ref o, .int a1]) (n := 3) (Nat.le_of_ble_eq_true rfl)
  rw [← hQ, lg_entry_eq]
  generalize (lg_sl ([.ref o, .int a1]) ++ List.replicate (3 - (lg_sl ([.ref o, .int a1])).length) Slot.unset).toArray = ls at hl ⊢
  have hl : lv_has ls 3 [(0, .ref o), (1, .int a1)] := hl
  generalize hH : s.heap = H at hP hS ⊢
  have hS : va_S A s.heap H [] := by rw [hH]; exact hS
  generalize hlc : ([] : List Loc) = locs at hS ⊢
  show W p l e rm_X8_goWeeks s m (([Value.ref o, Value.int a1] : List Value).toArray) below meth c H locs 0 0 Q (F0 m 0 ls [])
  have L2 : ∀ (n2 : Nat), ∀ (x2 : Int32) (y_trial : Nat → Int32) (H : Heap) (locs : List Loc) (ls : Array Slot), x8_goWeeks_b2 N v_jars f_kind a1 n2 x2 y_trial = some n_trial → lv_has ls 3 [(0, .ref o), (1, .int a1), (2, .int x2)] → va_P (dC, dI) vwCl (w_X8_goWeeks cI cZ cG o o_text o_kind o_size o_readJar o_page o_trial o_book o_kept o_isKept o_tastedFrom o_tastedTo o_order o_spots o_gains o_value v_thrown v_textSize v_place v_jars v_readPlaces v_readJars v_acts v_tasted v_seed v_some v_rowMany v_rowWay v_stuffWhich v_stuffNear v_keptMany v_keptFirst v_restMany v_restFirst f_kind y_trial) H → va_D A (w_X8_goWeeks cI cZ cG o o_text o_kind o_size o_readJar o_page o_trial o_book o_kept o_isKept o_tastedFrom o_tastedTo o_order o_spots o_gains o_value v_thrown v_textSize v_place v_jars v_readPlaces v_readJars v_acts v_tasted v_seed v_some v_rowMany v_rowWay v_stuffWhich v_stuffNear v_keptMany v_keptFirst v_restMany v_restFirst f_kind y_trial) → va_S A s.heap H locs → W p l e rm_X8_goWeeks s m (([Value.ref o, Value.int a1] : List Value).toArray) below meth c H locs 0 0 Q (F0 m 2 ls []) := by
    intro n2
    induction n2 with
    | zero =>
      intro x2 y_trial H locs ls hf hl hP hD hS
      exact g_no hf
    | succ n2 ih2 =>
      intro x2 y_trial H locs ls hf hl hP hD hS
      unfold x8_goWeeks_b2 at hf
      refine lv_iload_n hx hb dX8_goWeeks_2 rfl (lv_at hl 2 rfl) ?_
      refine lv_iload_n hx hb dX8_goWeeks_3 rfl (lv_at hl 1 rfl) ?_
      refine lv_icmp_ge (tgt := 21) hx hb dX8_goWeeks_4 (by decide) (fun c1 => ?_) (fun c1 => ?_)
      · have hf := g_pos c1 hf
        rw [hQ]
        cases hf
        exact W.vret hx hb hr (fun t ht hW => ⟨⟨(), rfl, trivial, by rw [ht]; exact hP, va_K.moved hW.alike hK, hD⟩, hS.F ht⟩) hS.2.2 dX8_goWeeks_21
      · have hf := g_neg c1 hf
        refine lv_aload_n hx hb dX8_goWeeks_7 rfl (lv_at hl 0 rfl) ?_
        refine lv_aload_n hx hb dX8_goWeeks_8 rfl (lv_at hl 0 rfl) ?_
        refine va_get (D := (dC, dI)) (ci := 8) (v := .ref o_trial) (C := RX8) (T := TX8) (N := 33) hx hb hts hiX8 hown hK hP 0 rfl rfl 11 (by decide) (hts (.fieldLink RX8 25 "GreenJarsModel" "trial" "[I") (by decide +kernel)) (fun _ h9 => h9) rfl dX8_goWeeks_9 ?_
        obtain ⟨y2, hc3, hf⟩ := g_b1 hf
        refine g_wVv (As := [.ref o_trial]) (rest := []) (wr := []) (wn := (w_X8_goWeeks cI cZ cG o o_text o_kind o_size o_readJar o_page o_trial o_book o_kept o_isKept o_tastedFrom o_tastedTo o_order o_spots o_gains o_value v_thrown v_textSize v_place v_jars v_readPlaces v_readJars v_acts v_tasted v_seed v_some v_rowMany v_rowWay v_stuffWhich v_stuffNear v_keptMany v_keptFirst v_restMany v_restFirst f_kind y2)) ⟨hx, hb, hml, hown, hts⟩ (c_X8_goWeek l dC dI cI cZ cG o o_text o_kind o_size o_readJar o_page o_trial o_book o_kept o_isKept o_tastedFrom o_tastedTo o_order o_spots o_gains o_value o_trial H.size  v_thrown v_textSize v_place v_jars v_readPlaces v_readJars v_acts v_tasted v_seed v_some v_rowMany v_rowWay v_stuffWhich v_stuffNear v_keptMany v_keptFirst v_restMany v_restFirst f_kind y_trial hc3) (cwV 1 hts gX8_goWeeks_X8_goWeek rfl rfl rfl (by decide +kernel) ⟨Nat.le_of_ble_eq_true rfl, Nat.le_of_ble_eq_true rfl⟩) hK hN hP hD hS hA [0, 1, 2] [] [0, 1, 2] rfl rfl (by decide) rfl (by decide) (by decide) rfl (by decide) (va_recv hK hP (ci := 8) (q0 := 0) rfl rfl) rfl hl.1 rfl (Nat.le_of_ble_eq_true rfl) dX8_goWeeks_12 ⟨Nat.zero_le _, Nat.zero_le _⟩ (fun H locs hP hD hS => ?_)
        refine lv_iinc (v := (x2 + (1 : Int32))) (lv' := [(2, .int (x2 + (1 : Int32))), (0, .ref o), (1, .int a1)]) hx hb dX8_goWeeks_15 hl (k := 2) rfl rfl (by decide) rfl (fun ls hl => ?_)
        refine lv_goto (tgt := 2) hx hb dX8_goWeeks_18 (by decide) ?_
        exact ih2 (x2 + (1 : Int32)) y2 H locs ls hf (lv_sub hl [1, 2, 0] rfl) hP hD hS
  unfold x8_goWeeks at hf
  refine lv_iconst (v := (0 : Int32)) hx hb dX8_goWeeks_0 (by decide) ?_
  refine lv_istore_n (lv' := [(2, .int (0 : Int32)), (0, .ref o), (1, .int a1)]) hx hb dX8_goWeeks_1 rfl hl (by decide) rfl (fun ls hl => ?_)
  exact L2 N (0 : Int32) f_trial H locs ls hf (lv_sub hl [1, 2, 0] rfl) hP hD hS
abbrev rm_X8_later : Room := { frames := 4, cells := 0, slots := 0, locals := 94 }
abbrev w_X8_later (cI cZ cG : ClassId) (o : Nat) (o_text : Nat) (o_kind : Nat) (o_size : Nat) (o_readJar : Nat) (o_page : Nat) (o_trial : Nat) (o_book : Nat) (o_kept : Nat) (o_isKept : Nat) (o_tastedFrom : Nat) (o_tastedTo : Nat) (o_order : Nat) (o_spots : Nat) (o_gains : Nat) (o_value : Nat) (v_thrown : Int32) (v_textSize : Int32) (v_place : Int32) (v_jars : Int32) (v_readPlaces : Int32) (v_readJars : Int32) (v_acts : Int32) (v_tasted : Int32) (v_seed : Int64) (v_some : Int32) (v_rowMany : Int32) (v_rowWay : Int32) (v_stuffWhich : Int32) (v_stuffNear : Int32) (v_keptMany : Int32) (v_keptFirst : Int32) (v_restMany : Int32) (v_restFirst : Int32) (f_kind : Nat → Int32) (f_page : Nat → Int32) (f_trial : Nat → Int32) : va_W := [(o, .inr (8, [.int v_thrown, .ref o_text, .int v_textSize, .int v_place, .int v_jars, .ref o_kind, .ref o_size, .int v_readPlaces, .int v_readJars, .ref o_readJar, .ref o_page, .ref o_trial, .ref o_book, .int v_acts, .ref o_kept, .ref o_isKept, .int v_tasted, .ref o_tastedFrom, .ref o_tastedTo, .long v_seed, .int v_some, .ref o_order, .ref o_spots, .int v_rowMany, .int v_rowWay, .int v_stuffWhich, .int v_stuffNear, .int v_keptMany, .int v_keptFirst, .int v_restMany, .int v_restFirst, .ref o_gains, .ref o_value])), (o_kind, .inl (cI, 6, .inl f_kind)), (o_page, .inl (cI, 37, .inl f_page)), (o_trial, .inl (cI, 37, .inl f_trial))]
set_option maxHeartbeats 4000000 in
set_option maxRecDepth 100000 in
theorem c_X8_later (l : Launch) (dC : Nat → ClassId) (dI : Nat → Nat → Nat) (cI cZ cG : ClassId) {N : Nat} (o : Nat) (o_text : Nat) (o_kind : Nat) (o_size : Nat) (o_readJar : Nat) (o_page : Nat) (o_trial : Nat) (o_book : Nat) (o_kept : Nat) (o_isKept : Nat) (o_tastedFrom : Nat) (o_tastedTo : Nat) (o_order : Nat) (o_spots : Nat) (o_gains : Nat) (o_value : Nat) (sz : Nat) (v_thrown : Int32) (v_textSize : Int32) (v_place : Int32) (v_jars : Int32) (v_readPlaces : Int32) (v_readJars : Int32) (v_acts : Int32) (v_tasted : Int32) (v_seed : Int64) (v_some : Int32) (v_rowMany : Int32) (v_rowWay : Int32) (v_stuffWhich : Int32) (v_stuffNear : Int32) (v_keptMany : Int32) (v_keptFirst : Int32) (v_restMany : Int32) (v_restFirst : Int32) (f_kind : Nat → Int32) (f_page : Nat → Int32) (f_trial : Nat → Int32) (a1 : Int32) (a2 : Int32) (a3 : Int32) {r0 : Int32} {n_thrown : Int32} {n_some : Int32} {n_trial : Nat → Int32} (hf : x8_later N v_thrown v_jars v_some f_kind f_page f_trial a1 a2 a3 = some (r0, n_thrown, n_some, n_trial)) : Met l yX8_later wsX8_later rm_X8_later (va_Pc [.ref o, .int a1, .int a2, .int a3] (gW (dC, dI) vwCl (gT cI cZ cG) (w_X8_later cI cZ cG o o_text o_kind o_size o_readJar o_page o_trial o_book o_kept o_isKept o_tastedFrom o_tastedTo o_order o_spots o_gains o_value v_thrown v_textSize v_place v_jars v_readPlaces v_readJars v_acts v_tasted v_seed v_some v_rowMany v_rowWay v_stuffWhich v_stuffNear v_keptMany v_keptFirst v_restMany v_restFirst f_kind f_page f_trial) sz)) (va_Qi (fun r _ => r = r0) (gE (dC, dI) vwCl (gT cI cZ cG) (w_X8_later cI cZ cG o o_text o_kind o_size o_readJar o_page o_trial o_book o_kept o_isKept o_tastedFrom o_tastedTo o_order o_spots o_gains o_value n_thrown v_textSize v_place v_jars v_readPlaces v_readJars v_acts v_tasted v_seed n_some v_rowMany v_rowWay v_stuffWhich v_stuffNear v_keptMany v_keptFirst v_restMany v_restFirst f_kind f_page n_trial) (va_A (w_X8_later cI cZ cG o o_text o_kind o_size o_readJar o_page o_trial o_book o_kept o_isKept o_tastedFrom o_tastedTo o_order o_spots o_gains o_value v_thrown v_textSize v_place v_jars v_readPlaces v_readJars v_acts v_tasted v_seed v_some v_rowMany v_rowWay v_stuffWhich v_stuffNear v_keptMany v_keptFirst v_restMany v_restFirst f_kind f_page f_trial) sz)) (va_A (w_X8_later cI cZ cG o o_text o_kind o_size o_readJar o_page o_trial o_book o_kept o_isKept o_tastedFrom o_tastedTo o_order o_spots o_gains o_value v_thrown v_textSize v_place v_jars v_readPlaces v_readJars v_acts v_tasted v_seed v_some v_rowMany v_rowWay v_stuffWhich v_stuffNear v_keptMany v_keptFirst v_restMany v_restFirst f_kind f_page f_trial) sz)) 0 0 (va_A (w_X8_later cI cZ cG o o_text o_kind o_size o_readJar o_page o_trial o_book o_kept o_isKept o_tastedFrom o_tastedTo o_order o_spots o_gains o_value v_thrown v_textSize v_place v_jars v_readPlaces v_readJars v_acts v_tasted v_seed v_some v_rowMany v_rowWay v_stuffWhich v_stuffNear v_keptMany v_keptFirst v_restMany v_restFirst f_kind f_page f_trial) sz) := by
  refine Met.ofW (cc := cX8_later) (maxL := 4) (ret := (some .int)) (by decide) rfl ?_
  intro p e s m args below meth c s₁ B hml hv
  obtain ⟨rfl, hv⟩ := hv
  obtain ⟨hsz, hP, hK, hN, hD0⟩ := hv
  have hx := B.exec
  have hb := B.bytes
  have hr := B.returns
  have hts := atoms_spec (ws := wsX8_later) B.pre
  have hown : s.vm.findClass RX8 = some m.cls := findClass_of_methodNamed B.named
  have hlocks := B.notSynchronized
  have hiX8 : ∀ w ∈ u_ws RX8 TX8 33, w ∈ wsX8_later := fun w h => List.mem_cons_of_mem _ (List.mem_append_right _ h)
  subst hsz
  have hD := hD0.self (sz := s.heap.size)
  generalize hAe : va_A (w_X8_later cI cZ cG o o_text o_kind o_size o_readJar o_page o_trial o_book o_kept o_isKept o_tastedFrom o_tastedTo o_order o_spots o_gains o_value v_thrown v_textSize v_place v_jars v_readPlaces v_readJars v_acts v_tasted v_seed v_some v_rowMany v_rowWay v_stuffWhich v_stuffNear v_keptMany v_keptFirst v_restMany v_restFirst f_kind f_page f_trial) s.heap.size = A at hD ⊢
  have hA : ∀ q : Nat, s.heap.size ≤ q → A q := fun q h => by rw [← hAe]; exact Or.inr h
  clear hD0
  have hS : va_S A s.heap s.heap [] := va_S.rf
  have hP : va_P (dC, dI) vwCl (w_X8_later cI cZ cG o o_text o_kind o_size o_readJar o_page o_trial o_book o_kept o_isKept o_tastedFrom o_tastedTo o_order o_spots o_gains o_value v_thrown v_textSize v_place v_jars v_readPlaces v_readJars v_acts v_tasted v_seed v_some v_rowMany v_rowWay v_stuffWhich v_stuffNear v_keptMany v_keptFirst v_restMany v_restFirst f_kind f_page f_trial) s.heap := hP
  obtain ⟨Q, hQ⟩ : ∃ Q : State → Prop, Q = MQ below (va_Qi (fun r _ => r = r0) (gE (dC, dI) vwCl (gT cI cZ cG) (w_X8_later cI cZ cG o o_text o_kind o_size o_readJar o_page o_trial o_book o_kept o_isKept o_tastedFrom o_tastedTo o_order o_spots o_gains o_value n_thrown v_textSize v_place v_jars v_readPlaces v_readJars v_acts v_tasted v_seed n_some v_rowMany v_rowWay v_stuffWhich v_stuffNear v_keptMany v_keptFirst v_restMany v_restFirst f_kind f_page n_trial) A) A) (([Value.ref o, Value.int a1, Value.int a2, Value.int a3] : List Value).toArray) s 0 0 A := ⟨_, rfl⟩
  have hl := lv_entry ([.ref o, .int a1, .int a2, .int a3]) (n := 4) (Nat.le_of_ble_eq_true rfl)
  rw [← hQ, lg_entry_eq]
  generalize (lg_sl ([.ref o, .int a1, .int a2, .int a3]) ++ List.replicate (4 - (lg_sl ([.ref o, .int a1, .int a2, .int a3])).length) Slot.unset).toArray = ls at hl ⊢
  have hl : lv_has ls 4 [(0, .ref o), (1, .int a1), (2, .int a2), (3, .int a3)] := hl
  generalize hH : s.heap = H at hP hS ⊢
  have hS : va_S A s.heap H [] := by rw [hH]; exact hS
  generalize hlc : ([] : List Loc) = locs at hS ⊢
  show W p l e rm_X8_later s m (([Value.ref o, Value.int a1, Value.int a2, Value.int a3] : List Value).toArray) below meth c H locs 0 0 Q (F0 m 0 ls [])
  unfold x8_later at hf
  refine lv_aload_n hx hb dX8_later_0 rfl (lv_at hl 0 rfl) ?_
  refine lv_iconst (v := (0 : Int32)) hx hb dX8_later_1 (by decide) ?_
  refine va_put (D := (dC, dI)) (ci := 8) (v := .int (0 : Int32)) (ty := .int) (C := RX8) (T := TX8) (N := 33) hx hb hts hiX8 tyX8 tyX8_ok nmX8 hown hK hP hD hS 0 rfl rfl 0 (by decide) (hts (.fieldLink RX8 56 "GreenJarsModel" "thrown" "I") (by decide +kernel)) (fun _ h9 => h9) rfl (by decide +kernel) rfl rfl (Nat.le_of_ble_eq_true rfl) dX8_later_2 (fun H locs hP hD hS => ?_)
  have hP : va_P (dC, dI) vwCl (w_X8_later cI cZ cG o o_text o_kind o_size o_readJar o_page o_trial o_book o_kept o_isKept o_tastedFrom o_tastedTo o_order o_spots o_gains o_value (0 : Int32) v_textSize v_place v_jars v_readPlaces v_readJars v_acts v_tasted v_seed v_some v_rowMany v_rowWay v_stuffWhich v_stuffNear v_keptMany v_keptFirst v_restMany v_restFirst f_kind f_page f_trial) H := hP
  have hD : va_D A (w_X8_later cI cZ cG o o_text o_kind o_size o_readJar o_page o_trial o_book o_kept o_isKept o_tastedFrom o_tastedTo o_order o_spots o_gains o_value (0 : Int32) v_textSize v_place v_jars v_readPlaces v_readJars v_acts v_tasted v_seed v_some v_rowMany v_rowWay v_stuffWhich v_stuffNear v_keptMany v_keptFirst v_restMany v_restFirst f_kind f_page f_trial) := hD
  refine lv_aload_n hx hb dX8_later_5 rfl (lv_at hl 0 rfl) ?_
  refine lv_iload_n hx hb dX8_later_6 rfl (lv_at hl 1 rfl) ?_
  obtain ⟨r1, hc2, hf⟩ := g_b1 hf
  refine g_rV (As := [.int a1]) (rest := []) ⟨hx, hb, hml, hown, hts⟩ (c_X8_noJar l dC dI cI cZ cG o o_text o_kind o_size o_readJar o_page o_trial o_book o_kept o_isKept o_tastedFrom o_tastedTo o_order o_spots o_gains o_value  (0 : Int32) v_textSize v_place v_jars v_readPlaces v_readJars v_acts v_tasted v_seed v_some v_rowMany v_rowWay v_stuffWhich v_stuffNear v_keptMany v_keptFirst v_restMany v_restFirst a1 hc2) (cwV 1 hts gX8_later_X8_noJar rfl rfl rfl (by decide +kernel) ⟨Nat.le_of_ble_eq_true rfl, Nat.le_of_ble_eq_true rfl⟩) hK hN (hP.sub [0] rfl) (va_recv hK hP (ci := 8) (q0 := 0) rfl rfl) rfl hl.1 rfl (Nat.le_of_ble_eq_true rfl) dX8_later_7 ⟨Nat.zero_le _, Nat.zero_le _⟩ ?_
  refine lv_if_eq (tgt := 15) hx hb dX8_later_10 (by decide) (fun c3 => ?_) (fun c3 => ?_)
  · have hf := g_pos c3 hf
    refine lv_iload_n hx hb dX8_later_15 rfl (lv_at hl 2 rfl) ?_
    refine lv_i2l hx hb dX8_later_16 rfl ?_
    refine lv_lconst (v := (0 : Int64)) hx hb dX8_later_17 (by decide) ?_
    refine lv_ldc2 (v := (20 : Int64)) hx hb hown (hts (.constantLong RX8 168 (20 : Int64)) (by decide +kernel)) dX8_later_18 ?_
    obtain ⟨r4, hc5, hf⟩ := g_b1 hf
    refine g_rS (As := [.long a2.toInt64, .long (0 : Int64), .long (20 : Int64)]) (rest := []) ⟨hx, hb, hml, hown, hts⟩ (c_X8_in l dC dI cI cZ cG    a2.toInt64 (0 : Int64) (20 : Int64) hc5) (va_cwS 3 hts gX8_later_X8_in rfl rfl rfl (by decide +kernel) ⟨Nat.le_of_ble_eq_true rfl, Nat.le_of_ble_eq_true rfl⟩) hK hN (hP.sub [] rfl) rfl hl.1 rfl (Nat.le_of_ble_eq_true rfl) dX8_later_21 ⟨Nat.zero_le _, Nat.zero_le _⟩ ?_
    refine lv_if_eq (tgt := 37) hx hb dX8_later_24 (by decide) (fun c6 => ?_) (fun c6 => ?_)
    · have hf := g_pos c6 hf
      refine lv_bipush (v := (-2 : Int32)) hx hb dX8_later_37 (by decide +kernel) ?_
      rw [hQ]
      cases hf
      exact W.iret hx hb hr (fun t ht hW => ⟨⟨_, (), rfl, rfl, by rw [ht]; exact hP, va_K.moved hW.alike hK, hD⟩, hS.F ht⟩) hS.2.2 dX8_later_39
    · have hf := g_neg c6 hf
      refine lv_iload_n hx hb dX8_later_27 rfl (lv_at hl 3 rfl) ?_
      refine lv_i2l hx hb dX8_later_28 rfl ?_
      refine lv_lconst (v := (0 : Int64)) hx hb dX8_later_29 (by decide) ?_
      refine lv_lconst (v := (1 : Int64)) hx hb dX8_later_30 (by decide) ?_
      obtain ⟨r7, hc8, hf⟩ := g_b1 hf
      refine g_rS (As := [.long a3.toInt64, .long (0 : Int64), .long (1 : Int64)]) (rest := []) ⟨hx, hb, hml, hown, hts⟩ (c_X8_in l dC dI cI cZ cG    a3.toInt64 (0 : Int64) (1 : Int64) hc8) (va_cwS 3 hts gX8_later_X8_in rfl rfl rfl (by decide +kernel) ⟨Nat.le_of_ble_eq_true rfl, Nat.le_of_ble_eq_true rfl⟩) hK hN (hP.sub [] rfl) rfl hl.1 rfl (Nat.le_of_ble_eq_true rfl) dX8_later_31 ⟨Nat.zero_le _, Nat.zero_le _⟩ ?_
      refine lv_if_ne (tgt := 40) hx hb dX8_later_34 (by decide) (fun c9 => ?_) (fun c9 => ?_)
      · have hf := g_neg c9 hf
        refine lv_aload_n hx hb dX8_later_40 rfl (lv_at hl 0 rfl) ?_
        obtain ⟨y10, y11, hc12, hf⟩ := g_b2 hf
        refine g_wVv (As := []) (rest := []) (wr := [(o_kind, .inl (cI, 6, .inl f_kind))]) (wn := (w_X8_later cI cZ cG o o_text o_kind o_size o_readJar o_page o_trial o_book o_kept o_isKept o_tastedFrom o_tastedTo o_order o_spots o_gains o_value (0 : Int32) v_textSize v_place v_jars v_readPlaces v_readJars v_acts v_tasted v_seed y10 v_rowMany v_rowWay v_stuffWhich v_stuffNear v_keptMany v_keptFirst v_restMany v_restFirst f_kind f_page y11)) ⟨hx, hb, hml, hown, hts⟩ (c_X8_begin l dC dI cI cZ cG o o_text o_kind o_size o_readJar o_page o_trial o_book o_kept o_isKept o_tastedFrom o_tastedTo o_order o_spots o_gains o_value H.size  (0 : Int32) v_textSize v_place v_jars v_readPlaces v_readJars v_acts v_tasted v_seed v_some v_rowMany v_rowWay v_stuffWhich v_stuffNear v_keptMany v_keptFirst v_restMany v_restFirst f_page f_trial hc12) (cwV 0 hts gX8_later_X8_begin rfl rfl rfl (by decide +kernel) ⟨Nat.le_of_ble_eq_true rfl, Nat.le_of_ble_eq_true rfl⟩) hK hN hP hD hS hA [0, 2, 3] [1] [1, 0, 2, 3] rfl rfl (by decide) rfl (by decide) (by decide) rfl (by decide) (va_recv hK hP (ci := 8) (q0 := 0) rfl rfl) rfl hl.1 rfl (Nat.le_of_ble_eq_true rfl) dX8_later_41 ⟨Nat.zero_le _, Nat.zero_le _⟩ (fun H locs hP hD hS => ?_)
        refine lv_aload_n hx hb dX8_later_44 rfl (lv_at hl 0 rfl) ?_
        refine lv_iload_n hx hb dX8_later_45 rfl (lv_at hl 2 rfl) ?_
        obtain ⟨y13, hc14, hf⟩ := g_b1 hf
        refine g_wVv (As := [.int a2]) (rest := []) (wr := [(o_page, .inl (cI, 37, .inl f_page))]) (wn := (w_X8_later cI cZ cG o o_text o_kind o_size o_readJar o_page o_trial o_book o_kept o_isKept o_tastedFrom o_tastedTo o_order o_spots o_gains o_value (0 : Int32) v_textSize v_place v_jars v_readPlaces v_readJars v_acts v_tasted v_seed y10 v_rowMany v_rowWay v_stuffWhich v_stuffNear v_keptMany v_keptFirst v_restMany v_restFirst f_kind f_page y13)) ⟨hx, hb, hml, hown, hts⟩ (c_X8_goWeeks l dC dI cI cZ cG o o_text o_kind o_size o_readJar o_page o_trial o_book o_kept o_isKept o_tastedFrom o_tastedTo o_order o_spots o_gains o_value H.size  (0 : Int32) v_textSize v_place v_jars v_readPlaces v_readJars v_acts v_tasted v_seed y10 v_rowMany v_rowWay v_stuffWhich v_stuffNear v_keptMany v_keptFirst v_restMany v_restFirst f_kind y11 a2 hc14) (cwV 1 hts gX8_later_X8_goWeeks rfl rfl rfl (by decide +kernel) ⟨Nat.le_of_ble_eq_true rfl, Nat.le_of_ble_eq_true rfl⟩) hK hN hP hD hS hA [0, 1, 3] [2] [1, 2, 0, 3] rfl rfl (by decide) rfl (by decide) (by decide) rfl (by decide) (va_recv hK hP (ci := 8) (q0 := 0) rfl rfl) rfl hl.1 rfl (Nat.le_of_ble_eq_true rfl) dX8_later_46 ⟨Nat.zero_le _, Nat.zero_le _⟩ (fun H locs hP hD hS => ?_)
        refine lv_iload_n hx hb dX8_later_49 rfl (lv_at hl 3 rfl) ?_
        refine lv_if_ne (tgt := 65) hx hb dX8_later_50 (by decide) (fun c15 => ?_) (fun c15 => ?_)
        · have hf := g_neg c15 hf
          refine lv_aload_n hx hb dX8_later_65 rfl (lv_at hl 0 rfl) ?_
          refine lv_aload_n hx hb dX8_later_66 rfl (lv_at hl 0 rfl) ?_
          refine va_get (D := (dC, dI)) (ci := 8) (v := .ref o_trial) (C := RX8) (T := TX8) (N := 33) hx hb hts hiX8 hown hK hP 0 rfl rfl 11 (by decide) (hts (.fieldLink RX8 25 "GreenJarsModel" "trial" "[I") (by decide +kernel)) (fun _ h9 => h9) rfl dX8_later_67 ?_
          refine lv_iload_n hx hb dX8_later_70 rfl (lv_at hl 1 rfl) ?_
          obtain ⟨r16, hc17, hf⟩ := g_b1 hf
          refine g_rV (As := [.ref o_trial, .int a1]) (rest := []) ⟨hx, hb, hml, hown, hts⟩ (c_X8_sees l dC dI cI cZ cG o o_text o_kind o_size o_readJar o_page o_trial o_book o_kept o_isKept o_tastedFrom o_tastedTo o_order o_spots o_gains o_value o_trial  (0 : Int32) v_textSize v_place v_jars v_readPlaces v_readJars v_acts v_tasted v_seed y10 v_rowMany v_rowWay v_stuffWhich v_stuffNear v_keptMany v_keptFirst v_restMany v_restFirst f_kind y13 a1 hc17) (cwV 2 hts gX8_later_X8_sees rfl rfl rfl (by decide +kernel) ⟨Nat.le_of_ble_eq_true rfl, Nat.le_of_ble_eq_true rfl⟩) hK hN (hP.sub [0, 1, 3] rfl) (va_recv hK hP (ci := 8) (q0 := 0) rfl rfl) rfl hl.1 rfl (Nat.le_of_ble_eq_true rfl) dX8_later_71 ⟨Nat.zero_le _, Nat.zero_le _⟩ ?_
          rw [hQ]
          cases hf
          exact W.iret hx hb hr (fun t ht hW => ⟨⟨_, (), rfl, rfl, by rw [ht]; exact hP, va_K.moved hW.alike hK, hD⟩, hS.F ht⟩) hS.2.2 dX8_later_74
        · have hf := g_pos c15 hf
          refine lv_aload_n hx hb dX8_later_53 rfl (lv_at hl 0 rfl) ?_
          refine va_get (D := (dC, dI)) (ci := 8) (v := .ref o_trial) (C := RX8) (T := TX8) (N := 33) hx hb hts hiX8 hown hK hP 0 rfl rfl 11 (by decide) (hts (.fieldLink RX8 25 "GreenJarsModel" "trial" "[I") (by decide +kernel)) (fun _ h9 => h9) rfl dX8_later_54 ?_
          refine lv_bipush (v := (6 : Int32)) hx hb dX8_later_57 (by decide +kernel) ?_
          refine lv_iload_n hx hb dX8_later_59 rfl (lv_at hl 1 rfl) ?_
          refine lv_iadd hx hb dX8_later_60 ?_
          obtain ⟨h18, hf⟩ := g_chk hf
          refine va_iald hx hb hK hP 3 0 rfl rfl (gIn_vp h18) dX8_later_61 ?_
          refine lv_goto (tgt := 74) hx hb dX8_later_62 (by decide) ?_
          rw [hQ]
          cases hf
          exact W.iret hx hb hr (fun t ht hW => ⟨⟨_, (), rfl, rfl, by rw [ht]; exact hP, va_K.moved hW.alike hK, hD⟩, hS.F ht⟩) hS.2.2 dX8_later_74
      · have hf := g_pos c9 hf
        refine lv_bipush (v := (-2 : Int32)) hx hb dX8_later_37 (by decide +kernel) ?_
        rw [hQ]
        cases hf
        exact W.iret hx hb hr (fun t ht hW => ⟨⟨_, (), rfl, rfl, by rw [ht]; exact hP, va_K.moved hW.alike hK, hD⟩, hS.F ht⟩) hS.2.2 dX8_later_39
  · have hf := g_neg c3 hf
    refine lv_iconst (v := (-1 : Int32)) hx hb dX8_later_13 (by decide) ?_
    rw [hQ]
    cases hf
    exact W.iret hx hb hr (fun t ht hW => ⟨⟨_, (), rfl, rfl, by rw [ht]; exact hP, va_K.moved hW.alike hK, hD⟩, hS.F ht⟩) hS.2.2 dX8_later_14
abbrev rm_X8_becomes : Room := { frames := 2, cells := 0, slots := 0, locals := 46 }
abbrev w_X8_becomes (cI cZ cG : ClassId) (o : Nat) (o_text : Nat) (o_kind : Nat) (o_size : Nat) (o_readJar : Nat) (o_page : Nat) (o_trial : Nat) (o_book : Nat) (o_kept : Nat) (o_isKept : Nat) (o_tastedFrom : Nat) (o_tastedTo : Nat) (o_order : Nat) (o_spots : Nat) (o_gains : Nat) (o_value : Nat) (v_thrown : Int32) (v_textSize : Int32) (v_place : Int32) (v_jars : Int32) (v_readPlaces : Int32) (v_readJars : Int32) (v_acts : Int32) (v_tasted : Int32) (v_seed : Int64) (v_some : Int32) (v_rowMany : Int32) (v_rowWay : Int32) (v_stuffWhich : Int32) (v_stuffNear : Int32) (v_keptMany : Int32) (v_keptFirst : Int32) (v_restMany : Int32) (v_restFirst : Int32) (f_kind : Nat → Int32) (f_page : Nat → Int32) (f_trial : Nat → Int32) : va_W := [(o, .inr (8, [.int v_thrown, .ref o_text, .int v_textSize, .int v_place, .int v_jars, .ref o_kind, .ref o_size, .int v_readPlaces, .int v_readJars, .ref o_readJar, .ref o_page, .ref o_trial, .ref o_book, .int v_acts, .ref o_kept, .ref o_isKept, .int v_tasted, .ref o_tastedFrom, .ref o_tastedTo, .long v_seed, .int v_some, .ref o_order, .ref o_spots, .int v_rowMany, .int v_rowWay, .int v_stuffWhich, .int v_stuffNear, .int v_keptMany, .int v_keptFirst, .int v_restMany, .int v_restFirst, .ref o_gains, .ref o_value])), (o_kind, .inl (cI, 6, .inl f_kind)), (o_page, .inl (cI, 37, .inl f_page)), (o_trial, .inl (cI, 37, .inl f_trial))]
set_option maxHeartbeats 4000000 in
set_option maxRecDepth 100000 in
theorem c_X8_becomes (l : Launch) (dC : Nat → ClassId) (dI : Nat → Nat → Nat) (cI cZ cG : ClassId) {N : Nat} (o : Nat) (o_text : Nat) (o_kind : Nat) (o_size : Nat) (o_readJar : Nat) (o_page : Nat) (o_trial : Nat) (o_book : Nat) (o_kept : Nat) (o_isKept : Nat) (o_tastedFrom : Nat) (o_tastedTo : Nat) (o_order : Nat) (o_spots : Nat) (o_gains : Nat) (o_value : Nat) (sz : Nat) (v_thrown : Int32) (v_textSize : Int32) (v_place : Int32) (v_jars : Int32) (v_readPlaces : Int32) (v_readJars : Int32) (v_acts : Int32) (v_tasted : Int32) (v_seed : Int64) (v_some : Int32) (v_rowMany : Int32) (v_rowWay : Int32) (v_stuffWhich : Int32) (v_stuffNear : Int32) (v_keptMany : Int32) (v_keptFirst : Int32) (v_restMany : Int32) (v_restFirst : Int32) (f_kind : Nat → Int32) (f_page : Nat → Int32) (f_trial : Nat → Int32) (a1 : Int32) (a2 : Int32) {r0 : Int32} {n_thrown : Int32} {n_some : Int32} {n_trial : Nat → Int32} (hf : x8_becomes N v_thrown v_jars v_some f_kind f_page f_trial a1 a2 = some (r0, n_thrown, n_some, n_trial)) : Met l yX8_becomes wsX8_becomes rm_X8_becomes (va_Pc [.ref o, .int a1, .int a2] (gW (dC, dI) vwCl (gT cI cZ cG) (w_X8_becomes cI cZ cG o o_text o_kind o_size o_readJar o_page o_trial o_book o_kept o_isKept o_tastedFrom o_tastedTo o_order o_spots o_gains o_value v_thrown v_textSize v_place v_jars v_readPlaces v_readJars v_acts v_tasted v_seed v_some v_rowMany v_rowWay v_stuffWhich v_stuffNear v_keptMany v_keptFirst v_restMany v_restFirst f_kind f_page f_trial) sz)) (va_Qi (fun r _ => r = r0) (gE (dC, dI) vwCl (gT cI cZ cG) (w_X8_becomes cI cZ cG o o_text o_kind o_size o_readJar o_page o_trial o_book o_kept o_isKept o_tastedFrom o_tastedTo o_order o_spots o_gains o_value n_thrown v_textSize v_place v_jars v_readPlaces v_readJars v_acts v_tasted v_seed n_some v_rowMany v_rowWay v_stuffWhich v_stuffNear v_keptMany v_keptFirst v_restMany v_restFirst f_kind f_page n_trial) (va_A (w_X8_becomes cI cZ cG o o_text o_kind o_size o_readJar o_page o_trial o_book o_kept o_isKept o_tastedFrom o_tastedTo o_order o_spots o_gains o_value v_thrown v_textSize v_place v_jars v_readPlaces v_readJars v_acts v_tasted v_seed v_some v_rowMany v_rowWay v_stuffWhich v_stuffNear v_keptMany v_keptFirst v_restMany v_restFirst f_kind f_page f_trial) sz)) (va_A (w_X8_becomes cI cZ cG o o_text o_kind o_size o_readJar o_page o_trial o_book o_kept o_isKept o_tastedFrom o_tastedTo o_order o_spots o_gains o_value v_thrown v_textSize v_place v_jars v_readPlaces v_readJars v_acts v_tasted v_seed v_some v_rowMany v_rowWay v_stuffWhich v_stuffNear v_keptMany v_keptFirst v_restMany v_restFirst f_kind f_page f_trial) sz)) 0 0 (va_A (w_X8_becomes cI cZ cG o o_text o_kind o_size o_readJar o_page o_trial o_book o_kept o_isKept o_tastedFrom o_tastedTo o_order o_spots o_gains o_value v_thrown v_textSize v_place v_jars v_readPlaces v_readJars v_acts v_tasted v_seed v_some v_rowMany v_rowWay v_stuffWhich v_stuffNear v_keptMany v_keptFirst v_restMany v_restFirst f_kind f_page f_trial) sz) := by
  refine Met.ofW (cc := cX8_becomes) (maxL := 4) (ret := (some .int)) (by decide) rfl ?_
  intro p e s m args below meth c s₁ B hml hv
  obtain ⟨rfl, hv⟩ := hv
  obtain ⟨hsz, hP, hK, hN, hD0⟩ := hv
  have hx := B.exec
  have hb := B.bytes
  have hr := B.returns
  have hts := atoms_spec (ws := wsX8_becomes) B.pre
  have hown : s.vm.findClass RX8 = some m.cls := findClass_of_methodNamed B.named
  have hlocks := B.notSynchronized
  have hiX8 : ∀ w ∈ u_ws RX8 TX8 33, w ∈ wsX8_becomes := fun w h => List.mem_cons_of_mem _ (List.mem_append_right _ h)
  subst hsz
  have hD := hD0.self (sz := s.heap.size)
  generalize hAe : va_A (w_X8_becomes cI cZ cG o o_text o_kind o_size o_readJar o_page o_trial o_book o_kept o_isKept o_tastedFrom o_tastedTo o_order o_spots o_gains o_value v_thrown v_textSize v_place v_jars v_readPlaces v_readJars v_acts v_tasted v_seed v_some v_rowMany v_rowWay v_stuffWhich v_stuffNear v_keptMany v_keptFirst v_restMany v_restFirst f_kind f_page f_trial) s.heap.size = A at hD ⊢
  have hA : ∀ q : Nat, s.heap.size ≤ q → A q := fun q h => by rw [← hAe]; exact Or.inr h
  clear hD0
  have hS : va_S A s.heap s.heap [] := va_S.rf
  have hP : va_P (dC, dI) vwCl (w_X8_becomes cI cZ cG o o_text o_kind o_size o_readJar o_page o_trial o_book o_kept o_isKept o_tastedFrom o_tastedTo o_order o_spots o_gains o_value v_thrown v_textSize v_place v_jars v_readPlaces v_readJars v_acts v_tasted v_seed v_some v_rowMany v_rowWay v_stuffWhich v_stuffNear v_keptMany v_keptFirst v_restMany v_restFirst f_kind f_page f_trial) s.heap := hP
  obtain ⟨Q, hQ⟩ : ∃ Q : State → Prop, Q = MQ below (va_Qi (fun r _ => r = r0) (gE (dC, dI) vwCl (gT cI cZ cG) (w_X8_becomes cI cZ cG o o_text o_kind o_size o_readJar o_page o_trial o_book o_kept o_isKept o_tastedFrom o_tastedTo o_order o_spots o_gains o_value n_thrown v_textSize v_place v_jars v_readPlaces v_readJars v_acts v_tasted v_seed n_some v_rowMany v_rowWay v_stuffWhich v_stuffNear v_keptMany v_keptFirst v_restMany v_restFirst f_kind f_page n_trial) A) A) (([Value.ref o, Value.int a1, Value.int a2] : List Value).toArray) s 0 0 A := ⟨_, rfl⟩
  have hl := lv_entry ([.ref o, .int a1, .int a2]) (n := 4) (Nat.le_of_ble_eq_true rfl)
  rw [← hQ, lg_entry_eq]
  generalize (lg_sl ([.ref o, .int a1, .int a2]) ++ List.replicate (4 - (lg_sl ([.ref o, .int a1, .int a2])).length) Slot.unset).toArray = ls at hl ⊢
  have hl : lv_has ls 4 [(0, .ref o), (1, .int a1), (2, .int a2)] := hl
  generalize hH : s.heap = H at hP hS ⊢
  have hS : va_S A s.heap H [] := by rw [hH]; exact hS
  generalize hlc : ([] : List Loc) = locs at hS ⊢
  show W p l e rm_X8_becomes s m (([Value.ref o, Value.int a1, Value.int a2] : List Value).toArray) below meth c H locs 0 0 Q (F0 m 0 ls [])
  have L50 : ∀ (n50 : Nat), ∀ (x3 : Int32) (y_thrown : Int32) (y_some : Int32) (y_trial : Nat → Int32) (H : Heap) (locs : List Loc) (ls : Array Slot), x8_becomes_b50 N v_jars f_kind f_page a1 a2 n50 x3 y_thrown y_some y_trial = some (r0, n_thrown, n_some, n_trial) → lv_has ls 4 [(0, .ref o), (1, .int a1), (2, .int a2), (3, .int x3)] → va_P (dC, dI) vwCl (w_X8_becomes cI cZ cG o o_text o_kind o_size o_readJar o_page o_trial o_book o_kept o_isKept o_tastedFrom o_tastedTo o_order o_spots o_gains o_value y_thrown v_textSize v_place v_jars v_readPlaces v_readJars v_acts v_tasted v_seed y_some v_rowMany v_rowWay v_stuffWhich v_stuffNear v_keptMany v_keptFirst v_restMany v_restFirst f_kind f_page y_trial) H → va_D A (w_X8_becomes cI cZ cG o o_text o_kind o_size o_readJar o_page o_trial o_book o_kept o_isKept o_tastedFrom o_tastedTo o_order o_spots o_gains o_value y_thrown v_textSize v_place v_jars v_readPlaces v_readJars v_acts v_tasted v_seed y_some v_rowMany v_rowWay v_stuffWhich v_stuffNear v_keptMany v_keptFirst v_restMany v_restFirst f_kind f_page y_trial) → va_S A s.heap H locs → W p l e rm_X8_becomes s m (([Value.ref o, Value.int a1, Value.int a2] : List Value).toArray) below meth c H locs 0 0 Q (F0 m 50 ls []) := by
    intro n50
    induction n50 with
    | zero =>
      intro x3 y_thrown y_some y_trial H locs ls hf hl hP hD hS
      exact g_no hf
    | succ n50 ih50 =>
      intro x3 y_thrown y_some y_trial H locs ls hf hl hP hD hS
      unfold x8_becomes_b50 at hf
      refine lv_iload_n hx hb dX8_becomes_50 rfl (lv_at hl 3 rfl) ?_
      refine lv_bipush (v := (20 : Int32)) hx hb dX8_becomes_51 (by decide +kernel) ?_
      refine lv_icmp_gt (tgt := 85) hx hb dX8_becomes_53 (by decide) (fun c1 => ?_) (fun c1 => ?_)
      · have hf := g_pos c1 hf
        refine lv_bipush (v := (-9 : Int32)) hx hb dX8_becomes_85 (by decide +kernel) ?_
        rw [hQ]
        cases hf
        exact W.iret hx hb hr (fun t ht hW => ⟨⟨_, (), rfl, rfl, by rw [ht]; exact hP, va_K.moved hW.alike hK, hD⟩, hS.F ht⟩) hS.2.2 dX8_becomes_87
      · have hf := g_neg c1 hf
        refine lv_aload_n hx hb dX8_becomes_56 rfl (lv_at hl 0 rfl) ?_
        refine va_get (D := (dC, dI)) (ci := 8) (v := .ref o_trial) (C := RX8) (T := TX8) (N := 33) hx hb hts hiX8 hown hK hP 0 rfl rfl 11 (by decide) (hts (.fieldLink RX8 25 "GreenJarsModel" "trial" "[I") (by decide +kernel)) (fun _ h9 => h9) rfl dX8_becomes_57 ?_
        refine lv_bipush (v := (6 : Int32)) hx hb dX8_becomes_60 (by decide +kernel) ?_
        refine lv_iload_n hx hb dX8_becomes_62 rfl (lv_at hl 1 rfl) ?_
        refine lv_iadd hx hb dX8_becomes_63 ?_
        obtain ⟨h2, hf⟩ := g_chk hf
        refine va_iald hx hb hK hP 3 0 rfl rfl (gIn_vp h2) dX8_becomes_64 ?_
        refine lv_iload_n hx hb dX8_becomes_65 rfl (lv_at hl 2 rfl) ?_
        refine lv_icmp_ne (tgt := 71) hx hb dX8_becomes_66 (by decide) (fun c3 => ?_) (fun c3 => ?_)
        · have hf := g_neg c3 hf
          refine lv_aload_n hx hb dX8_becomes_71 rfl (lv_at hl 0 rfl) ?_
          refine lv_aload_n hx hb dX8_becomes_72 rfl (lv_at hl 0 rfl) ?_
          refine va_get (D := (dC, dI)) (ci := 8) (v := .ref o_trial) (C := RX8) (T := TX8) (N := 33) hx hb hts hiX8 hown hK hP 0 rfl rfl 11 (by decide) (hts (.fieldLink RX8 25 "GreenJarsModel" "trial" "[I") (by decide +kernel)) (fun _ h9 => h9) rfl dX8_becomes_73 ?_
          obtain ⟨y4, hc5, hf⟩ := g_b1 hf
          refine g_wVv (As := [.ref o_trial]) (rest := []) (wr := [(o_page, .inl (cI, 37, .inl f_page))]) (wn := (w_X8_becomes cI cZ cG o o_text o_kind o_size o_readJar o_page o_trial o_book o_kept o_isKept o_tastedFrom o_tastedTo o_order o_spots o_gains o_value y_thrown v_textSize v_place v_jars v_readPlaces v_readJars v_acts v_tasted v_seed y_some v_rowMany v_rowWay v_stuffWhich v_stuffNear v_keptMany v_keptFirst v_restMany v_restFirst f_kind f_page y4)) ⟨hx, hb, hml, hown, hts⟩ (c_X8_goWeek l dC dI cI cZ cG o o_text o_kind o_size o_readJar o_page o_trial o_book o_kept o_isKept o_tastedFrom o_tastedTo o_order o_spots o_gains o_value o_trial H.size  y_thrown v_textSize v_place v_jars v_readPlaces v_readJars v_acts v_tasted v_seed y_some v_rowMany v_rowWay v_stuffWhich v_stuffNear v_keptMany v_keptFirst v_restMany v_restFirst f_kind y_trial hc5) (cwV 1 hts gX8_becomes_X8_goWeek rfl rfl rfl (by decide +kernel) ⟨Nat.le_of_ble_eq_true rfl, Nat.le_of_ble_eq_true rfl⟩) hK hN hP hD hS hA [0, 1, 3] [2] [1, 2, 0, 3] rfl rfl (by decide) rfl (by decide) (by decide) rfl (by decide) (va_recv hK hP (ci := 8) (q0 := 0) rfl rfl) rfl hl.1 rfl (Nat.le_of_ble_eq_true rfl) dX8_becomes_76 ⟨Nat.zero_le _, Nat.zero_le _⟩ (fun H locs hP hD hS => ?_)
          refine lv_iinc (v := (x3 + (1 : Int32))) (lv' := [(3, .int (x3 + (1 : Int32))), (0, .ref o), (1, .int a1), (2, .int a2)]) hx hb dX8_becomes_79 hl (k := 3) rfl rfl (by decide) rfl (fun ls hl => ?_)
          refine lv_goto (tgt := 50) hx hb dX8_becomes_82 (by decide) ?_
          exact ih50 (x3 + (1 : Int32)) y_thrown y_some y4 H locs ls hf (lv_sub hl [1, 2, 3, 0] rfl) hP hD hS
        · have hf := g_pos c3 hf
          refine lv_iload_n hx hb dX8_becomes_69 rfl (lv_at hl 3 rfl) ?_
          rw [hQ]
          cases hf
          exact W.iret hx hb hr (fun t ht hW => ⟨⟨_, (), rfl, rfl, by rw [ht]; exact hP, va_K.moved hW.alike hK, hD⟩, hS.F ht⟩) hS.2.2 dX8_becomes_70
  unfold x8_becomes at hf
  refine lv_aload_n hx hb dX8_becomes_0 rfl (lv_at hl 0 rfl) ?_
  refine lv_iconst (v := (0 : Int32)) hx hb dX8_becomes_1 (by decide) ?_
  refine va_put (D := (dC, dI)) (ci := 8) (v := .int (0 : Int32)) (ty := .int) (C := RX8) (T := TX8) (N := 33) hx hb hts hiX8 tyX8 tyX8_ok nmX8 hown hK hP hD hS 0 rfl rfl 0 (by decide) (hts (.fieldLink RX8 56 "GreenJarsModel" "thrown" "I") (by decide +kernel)) (fun _ h9 => h9) rfl (by decide +kernel) rfl rfl (Nat.le_of_ble_eq_true rfl) dX8_becomes_2 (fun H locs hP hD hS => ?_)
  have hP : va_P (dC, dI) vwCl (w_X8_becomes cI cZ cG o o_text o_kind o_size o_readJar o_page o_trial o_book o_kept o_isKept o_tastedFrom o_tastedTo o_order o_spots o_gains o_value (0 : Int32) v_textSize v_place v_jars v_readPlaces v_readJars v_acts v_tasted v_seed v_some v_rowMany v_rowWay v_stuffWhich v_stuffNear v_keptMany v_keptFirst v_restMany v_restFirst f_kind f_page f_trial) H := hP
  have hD : va_D A (w_X8_becomes cI cZ cG o o_text o_kind o_size o_readJar o_page o_trial o_book o_kept o_isKept o_tastedFrom o_tastedTo o_order o_spots o_gains o_value (0 : Int32) v_textSize v_place v_jars v_readPlaces v_readJars v_acts v_tasted v_seed v_some v_rowMany v_rowWay v_stuffWhich v_stuffNear v_keptMany v_keptFirst v_restMany v_restFirst f_kind f_page f_trial) := hD
  refine lv_aload_n hx hb dX8_becomes_5 rfl (lv_at hl 0 rfl) ?_
  refine lv_iload_n hx hb dX8_becomes_6 rfl (lv_at hl 1 rfl) ?_
  obtain ⟨r6, hc7, hf⟩ := g_b1 hf
  refine g_rV (As := [.int a1]) (rest := []) ⟨hx, hb, hml, hown, hts⟩ (c_X8_noJar l dC dI cI cZ cG o o_text o_kind o_size o_readJar o_page o_trial o_book o_kept o_isKept o_tastedFrom o_tastedTo o_order o_spots o_gains o_value  (0 : Int32) v_textSize v_place v_jars v_readPlaces v_readJars v_acts v_tasted v_seed v_some v_rowMany v_rowWay v_stuffWhich v_stuffNear v_keptMany v_keptFirst v_restMany v_restFirst a1 hc7) (cwV 1 hts gX8_becomes_X8_noJar rfl rfl rfl (by decide +kernel) ⟨Nat.le_of_ble_eq_true rfl, Nat.le_of_ble_eq_true rfl⟩) hK hN (hP.sub [0] rfl) (va_recv hK hP (ci := 8) (q0 := 0) rfl rfl) rfl hl.1 rfl (Nat.le_of_ble_eq_true rfl) dX8_becomes_7 ⟨Nat.zero_le _, Nat.zero_le _⟩ ?_
  refine lv_if_eq (tgt := 15) hx hb dX8_becomes_10 (by decide) (fun c8 => ?_) (fun c8 => ?_)
  · have hf := g_pos c8 hf
    refine lv_iload_n hx hb dX8_becomes_15 rfl (lv_at hl 2 rfl) ?_
    refine lv_i2l hx hb dX8_becomes_16 rfl ?_
    refine lv_lconst (v := (0 : Int64)) hx hb dX8_becomes_17 (by decide) ?_
    refine lv_ldc2 (v := (9 : Int64)) hx hb hown (hts (.constantLong RX8 177 (9 : Int64)) (by decide +kernel)) dX8_becomes_18 ?_
    obtain ⟨r9, hc10, hf⟩ := g_b1 hf
    refine g_rS (As := [.long a2.toInt64, .long (0 : Int64), .long (9 : Int64)]) (rest := []) ⟨hx, hb, hml, hown, hts⟩ (c_X8_in l dC dI cI cZ cG    a2.toInt64 (0 : Int64) (9 : Int64) hc10) (va_cwS 3 hts gX8_becomes_X8_in rfl rfl rfl (by decide +kernel) ⟨Nat.le_of_ble_eq_true rfl, Nat.le_of_ble_eq_true rfl⟩) hK hN (hP.sub [] rfl) rfl hl.1 rfl (Nat.le_of_ble_eq_true rfl) dX8_becomes_21 ⟨Nat.zero_le _, Nat.zero_le _⟩ ?_
    refine lv_if_ne (tgt := 30) hx hb dX8_becomes_24 (by decide) (fun c11 => ?_) (fun c11 => ?_)
    · have hf := g_neg c11 hf
      refine lv_aload_n hx hb dX8_becomes_30 rfl (lv_at hl 0 rfl) ?_
      refine va_get (D := (dC, dI)) (ci := 8) (v := .ref o_page) (C := RX8) (T := TX8) (N := 33) hx hb hts hiX8 hown hK hP 0 rfl rfl 10 (by decide) (hts (.fieldLink RX8 22 "GreenJarsModel" "page" "[I") (by decide +kernel)) (fun _ h9 => h9) rfl dX8_becomes_31 ?_
      refine lv_iload_n hx hb dX8_becomes_34 rfl (lv_at hl 1 rfl) ?_
      obtain ⟨r12, hc13, hf⟩ := g_b1 hf
      refine g_rS (As := [.ref o_page, .int a1]) (rest := []) ⟨hx, hb, hml, hown, hts⟩ (c_X8_isWhole l dC dI cI cZ cG o_page  f_page a1 hc13) (va_cwS 2 hts gX8_becomes_X8_isWhole rfl rfl rfl (by decide +kernel) ⟨Nat.le_of_ble_eq_true rfl, Nat.le_of_ble_eq_true rfl⟩) hK hN (hP.sub [2] rfl) rfl hl.1 rfl (Nat.le_of_ble_eq_true rfl) dX8_becomes_35 ⟨Nat.zero_le _, Nat.zero_le _⟩ ?_
      refine lv_if_ne (tgt := 44) hx hb dX8_becomes_38 (by decide) (fun c14 => ?_) (fun c14 => ?_)
      · have hf := g_neg c14 hf
        refine lv_aload_n hx hb dX8_becomes_44 rfl (lv_at hl 0 rfl) ?_
        obtain ⟨y15, y16, hc17, hf⟩ := g_b2 hf
        refine g_wVv (As := []) (rest := []) (wr := [(o_kind, .inl (cI, 6, .inl f_kind))]) (wn := (w_X8_becomes cI cZ cG o o_text o_kind o_size o_readJar o_page o_trial o_book o_kept o_isKept o_tastedFrom o_tastedTo o_order o_spots o_gains o_value (0 : Int32) v_textSize v_place v_jars v_readPlaces v_readJars v_acts v_tasted v_seed y15 v_rowMany v_rowWay v_stuffWhich v_stuffNear v_keptMany v_keptFirst v_restMany v_restFirst f_kind f_page y16)) ⟨hx, hb, hml, hown, hts⟩ (c_X8_begin l dC dI cI cZ cG o o_text o_kind o_size o_readJar o_page o_trial o_book o_kept o_isKept o_tastedFrom o_tastedTo o_order o_spots o_gains o_value H.size  (0 : Int32) v_textSize v_place v_jars v_readPlaces v_readJars v_acts v_tasted v_seed v_some v_rowMany v_rowWay v_stuffWhich v_stuffNear v_keptMany v_keptFirst v_restMany v_restFirst f_page f_trial hc17) (cwV 0 hts gX8_becomes_X8_begin rfl rfl rfl (by decide +kernel) ⟨Nat.le_of_ble_eq_true rfl, Nat.le_of_ble_eq_true rfl⟩) hK hN hP hD hS hA [0, 2, 3] [1] [1, 0, 2, 3] rfl rfl (by decide) rfl (by decide) (by decide) rfl (by decide) (va_recv hK hP (ci := 8) (q0 := 0) rfl rfl) rfl hl.1 rfl (Nat.le_of_ble_eq_true rfl) dX8_becomes_45 ⟨Nat.zero_le _, Nat.zero_le _⟩ (fun H locs hP hD hS => ?_)
        refine lv_iconst (v := (0 : Int32)) hx hb dX8_becomes_48 (by decide) ?_
        refine lv_istore_n (lv' := [(3, .int (0 : Int32)), (0, .ref o), (1, .int a1), (2, .int a2)]) hx hb dX8_becomes_49 rfl hl (by decide) rfl (fun ls hl => ?_)
        exact L50 N (0 : Int32) (0 : Int32) y15 y16 H locs ls hf (lv_sub hl [1, 2, 3, 0] rfl) hP hD hS
      · have hf := g_pos c14 hf
        refine lv_bipush (v := (-3 : Int32)) hx hb dX8_becomes_41 (by decide +kernel) ?_
        rw [hQ]
        cases hf
        exact W.iret hx hb hr (fun t ht hW => ⟨⟨_, (), rfl, rfl, by rw [ht]; exact hP, va_K.moved hW.alike hK, hD⟩, hS.F ht⟩) hS.2.2 dX8_becomes_43
    · have hf := g_pos c11 hf
      refine lv_bipush (v := (-2 : Int32)) hx hb dX8_becomes_27 (by decide +kernel) ?_
      rw [hQ]
      cases hf
      exact W.iret hx hb hr (fun t ht hW => ⟨⟨_, (), rfl, rfl, by rw [ht]; exact hP, va_K.moved hW.alike hK, hD⟩, hS.F ht⟩) hS.2.2 dX8_becomes_29
  · have hf := g_neg c8 hf
    refine lv_iconst (v := (-1 : Int32)) hx hb dX8_becomes_13 (by decide) ?_
    rw [hQ]
    cases hf
    exact W.iret hx hb hr (fun t ht hW => ⟨⟨_, (), rfl, rfl, by rw [ht]; exact hP, va_K.moved hW.alike hK, hD⟩, hS.F ht⟩) hS.2.2 dX8_becomes_14
abbrev rm_X8_fails : Room := { frames := 2, cells := 0, slots := 0, locals := 46 }
abbrev w_X8_fails (cI cZ cG : ClassId) (o : Nat) (o_text : Nat) (o_kind : Nat) (o_size : Nat) (o_readJar : Nat) (o_page : Nat) (o_trial : Nat) (o_book : Nat) (o_kept : Nat) (o_isKept : Nat) (o_tastedFrom : Nat) (o_tastedTo : Nat) (o_order : Nat) (o_spots : Nat) (o_gains : Nat) (o_value : Nat) (v_thrown : Int32) (v_textSize : Int32) (v_place : Int32) (v_jars : Int32) (v_readPlaces : Int32) (v_readJars : Int32) (v_acts : Int32) (v_tasted : Int32) (v_seed : Int64) (v_some : Int32) (v_rowMany : Int32) (v_rowWay : Int32) (v_stuffWhich : Int32) (v_stuffNear : Int32) (v_keptMany : Int32) (v_keptFirst : Int32) (v_restMany : Int32) (v_restFirst : Int32) (f_kind : Nat → Int32) (f_size : Nat → Int32) (f_page : Nat → Int32) (f_trial : Nat → Int32) : va_W := [(o, .inr (8, [.int v_thrown, .ref o_text, .int v_textSize, .int v_place, .int v_jars, .ref o_kind, .ref o_size, .int v_readPlaces, .int v_readJars, .ref o_readJar, .ref o_page, .ref o_trial, .ref o_book, .int v_acts, .ref o_kept, .ref o_isKept, .int v_tasted, .ref o_tastedFrom, .ref o_tastedTo, .long v_seed, .int v_some, .ref o_order, .ref o_spots, .int v_rowMany, .int v_rowWay, .int v_stuffWhich, .int v_stuffNear, .int v_keptMany, .int v_keptFirst, .int v_restMany, .int v_restFirst, .ref o_gains, .ref o_value])), (o_kind, .inl (cI, 6, .inl f_kind)), (o_size, .inl (cI, 6, .inl f_size)), (o_page, .inl (cI, 37, .inl f_page)), (o_trial, .inl (cI, 37, .inl f_trial))]
set_option maxHeartbeats 4000000 in
set_option maxRecDepth 100000 in
theorem c_X8_fails (l : Launch) (dC : Nat → ClassId) (dI : Nat → Nat → Nat) (cI cZ cG : ClassId) {N : Nat} (o : Nat) (o_text : Nat) (o_kind : Nat) (o_size : Nat) (o_readJar : Nat) (o_page : Nat) (o_trial : Nat) (o_book : Nat) (o_kept : Nat) (o_isKept : Nat) (o_tastedFrom : Nat) (o_tastedTo : Nat) (o_order : Nat) (o_spots : Nat) (o_gains : Nat) (o_value : Nat) (sz : Nat) (v_thrown : Int32) (v_textSize : Int32) (v_place : Int32) (v_jars : Int32) (v_readPlaces : Int32) (v_readJars : Int32) (v_acts : Int32) (v_tasted : Int32) (v_seed : Int64) (v_some : Int32) (v_rowMany : Int32) (v_rowWay : Int32) (v_stuffWhich : Int32) (v_stuffNear : Int32) (v_keptMany : Int32) (v_keptFirst : Int32) (v_restMany : Int32) (v_restFirst : Int32) (f_kind : Nat → Int32) (f_size : Nat → Int32) (f_page : Nat → Int32) (f_trial : Nat → Int32) (a1 : Int32) {r0 : Int32} {n_thrown : Int32} {n_some : Int32} {n_trial : Nat → Int32} (hf : x8_fails N v_thrown v_jars v_some f_kind f_size f_page f_trial a1 = some (r0, n_thrown, n_some, n_trial)) : Met l yX8_fails wsX8_fails rm_X8_fails (va_Pc [.ref o, .int a1] (gW (dC, dI) vwCl (gT cI cZ cG) (w_X8_fails cI cZ cG o o_text o_kind o_size o_readJar o_page o_trial o_book o_kept o_isKept o_tastedFrom o_tastedTo o_order o_spots o_gains o_value v_thrown v_textSize v_place v_jars v_readPlaces v_readJars v_acts v_tasted v_seed v_some v_rowMany v_rowWay v_stuffWhich v_stuffNear v_keptMany v_keptFirst v_restMany v_restFirst f_kind f_size f_page f_trial) sz)) (va_Qi (fun r _ => r = r0) (gE (dC, dI) vwCl (gT cI cZ cG) (w_X8_fails cI cZ cG o o_text o_kind o_size o_readJar o_page o_trial o_book o_kept o_isKept o_tastedFrom o_tastedTo o_order o_spots o_gains o_value n_thrown v_textSize v_place v_jars v_readPlaces v_readJars v_acts v_tasted v_seed n_some v_rowMany v_rowWay v_stuffWhich v_stuffNear v_keptMany v_keptFirst v_restMany v_restFirst f_kind f_size f_page n_trial) (va_A (w_X8_fails cI cZ cG o o_text o_kind o_size o_readJar o_page o_trial o_book o_kept o_isKept o_tastedFrom o_tastedTo o_order o_spots o_gains o_value v_thrown v_textSize v_place v_jars v_readPlaces v_readJars v_acts v_tasted v_seed v_some v_rowMany v_rowWay v_stuffWhich v_stuffNear v_keptMany v_keptFirst v_restMany v_restFirst f_kind f_size f_page f_trial) sz)) (va_A (w_X8_fails cI cZ cG o o_text o_kind o_size o_readJar o_page o_trial o_book o_kept o_isKept o_tastedFrom o_tastedTo o_order o_spots o_gains o_value v_thrown v_textSize v_place v_jars v_readPlaces v_readJars v_acts v_tasted v_seed v_some v_rowMany v_rowWay v_stuffWhich v_stuffNear v_keptMany v_keptFirst v_restMany v_restFirst f_kind f_size f_page f_trial) sz)) 0 0 (va_A (w_X8_fails cI cZ cG o o_text o_kind o_size o_readJar o_page o_trial o_book o_kept o_isKept o_tastedFrom o_tastedTo o_order o_spots o_gains o_value v_thrown v_textSize v_place v_jars v_readPlaces v_readJars v_acts v_tasted v_seed v_some v_rowMany v_rowWay v_stuffWhich v_stuffNear v_keptMany v_keptFirst v_restMany v_restFirst f_kind f_size f_page f_trial) sz) := by
  refine Met.ofW (cc := cX8_fails) (maxL := 3) (ret := (some .int)) (by decide) rfl ?_
  intro p e s m args below meth c s₁ B hml hv
  obtain ⟨rfl, hv⟩ := hv
  obtain ⟨hsz, hP, hK, hN, hD0⟩ := hv
  have hx := B.exec
  have hb := B.bytes
  have hr := B.returns
  have hts := atoms_spec (ws := wsX8_fails) B.pre
  have hown : s.vm.findClass RX8 = some m.cls := findClass_of_methodNamed B.named
  have hlocks := B.notSynchronized
  have hiX8 : ∀ w ∈ u_ws RX8 TX8 33, w ∈ wsX8_fails := fun w h => List.mem_cons_of_mem _ (List.mem_append_right _ h)
  subst hsz
  have hD := hD0.self (sz := s.heap.size)
  generalize hAe : va_A (w_X8_fails cI cZ cG o o_text o_kind o_size o_readJar o_page o_trial o_book o_kept o_isKept o_tastedFrom o_tastedTo o_order o_spots o_gains o_value v_thrown v_textSize v_place v_jars v_readPlaces v_readJars v_acts v_tasted v_seed v_some v_rowMany v_rowWay v_stuffWhich v_stuffNear v_keptMany v_keptFirst v_restMany v_restFirst f_kind f_size f_page f_trial) s.heap.size = A at hD ⊢
  have hA : ∀ q : Nat, s.heap.size ≤ q → A q := fun q h => by rw [← hAe]; exact Or.inr h
  clear hD0
  have hS : va_S A s.heap s.heap [] := va_S.rf
  have hP : va_P (dC, dI) vwCl (w_X8_fails cI cZ cG o o_text o_kind o_size o_readJar o_page o_trial o_book o_kept o_isKept o_tastedFrom o_tastedTo o_order o_spots o_gains o_value v_thrown v_textSize v_place v_jars v_readPlaces v_readJars v_acts v_tasted v_seed v_some v_rowMany v_rowWay v_stuffWhich v_stuffNear v_keptMany v_keptFirst v_restMany v_restFirst f_kind f_size f_page f_trial) s.heap := hP
  obtain ⟨Q, hQ⟩ : ∃ Q : State → Prop, Q = MQ below (va_Qi (fun r _ => r = r0) (gE (dC, dI) vwCl (gT cI cZ cG) (w_X8_fails cI cZ cG o o_text o_kind o_size o_readJar o_page o_trial o_book o_kept o_isKept o_tastedFrom o_tastedTo o_order o_spots o_gains o_value n_thrown v_textSize v_place v_jars v_readPlaces v_readJars v_acts v_tasted v_seed n_some v_rowMany v_rowWay v_stuffWhich v_stuffNear v_keptMany v_keptFirst v_restMany v_restFirst f_kind f_size f_page n_trial) A) A) (([Value.ref o, Value.int a1] : List Value).toArray) s 0 0 A := ⟨_, rfl⟩
  have hl := lv_entry ([.ref o, .int a1]) (n := 3) (Nat.le_of_ble_eq_true rfl)
  rw [← hQ, lg_entry_eq]
  generalize (lg_sl ([.ref o, .int a1]) ++ List.replicate (3 - (lg_sl ([.ref o, .int a1])).length) Slot.unset).toArray = ls at hl ⊢
  have hl : lv_has ls 3 [(0, .ref o), (1, .int a1)] := hl
  generalize hH : s.heap = H at hP hS ⊢
  have hS : va_S A s.heap H [] := by rw [hH]; exact hS
  generalize hlc : ([] : List Loc) = locs at hS ⊢
  show W p l e rm_X8_fails s m (([Value.ref o, Value.int a1] : List Value).toArray) below meth c H locs 0 0 Q (F0 m 0 ls [])
  have L35 : ∀ (n35 : Nat), ∀ (x2 : Int32) (y_thrown : Int32) (y_some : Int32) (y_trial : Nat → Int32) (H : Heap) (locs : List Loc) (ls : Array Slot), x8_fails_b35 N v_jars f_kind f_size f_page a1 n35 x2 y_thrown y_some y_trial = some (r0, n_thrown, n_some, n_trial) → lv_has ls 3 [(0, .ref o), (1, .int a1), (2, .int x2)] → va_P (dC, dI) vwCl (w_X8_fails cI cZ cG o o_text o_kind o_size o_readJar o_page o_trial o_book o_kept o_isKept o_tastedFrom o_tastedTo o_order o_spots o_gains o_value y_thrown v_textSize v_place v_jars v_readPlaces v_readJars v_acts v_tasted v_seed y_some v_rowMany v_rowWay v_stuffWhich v_stuffNear v_keptMany v_keptFirst v_restMany v_restFirst f_kind f_size f_page y_trial) H → va_D A (w_X8_fails cI cZ cG o o_text o_kind o_size o_readJar o_page o_trial o_book o_kept o_isKept o_tastedFrom o_tastedTo o_order o_spots o_gains o_value y_thrown v_textSize v_place v_jars v_readPlaces v_readJars v_acts v_tasted v_seed y_some v_rowMany v_rowWay v_stuffWhich v_stuffNear v_keptMany v_keptFirst v_restMany v_restFirst f_kind f_size f_page y_trial) → va_S A s.heap H locs → W p l e rm_X8_fails s m (([Value.ref o, Value.int a1] : List Value).toArray) below meth c H locs 0 0 Q (F0 m 35 ls []) := by
    intro n35
    induction n35 with
    | zero =>
      intro x2 y_thrown y_some y_trial H locs ls hf hl hP hD hS
      exact g_no hf
    | succ n35 ih35 =>
      intro x2 y_thrown y_some y_trial H locs ls hf hl hP hD hS
      unfold x8_fails_b35 at hf
      refine lv_iload_n hx hb dX8_fails_35 rfl (lv_at hl 2 rfl) ?_
      refine lv_bipush (v := (20 : Int32)) hx hb dX8_fails_36 (by decide +kernel) ?_
      refine lv_icmp_gt (tgt := 75) hx hb dX8_fails_38 (by decide) (fun c1 => ?_) (fun c1 => ?_)
      · have hf := g_pos c1 hf
        refine lv_bipush (v := (-9 : Int32)) hx hb dX8_fails_75 (by decide +kernel) ?_
        rw [hQ]
        cases hf
        exact W.iret hx hb hr (fun t ht hW => ⟨⟨_, (), rfl, rfl, by rw [ht]; exact hP, va_K.moved hW.alike hK, hD⟩, hS.F ht⟩) hS.2.2 dX8_fails_77
      · have hf := g_neg c1 hf
        refine lv_aload_n hx hb dX8_fails_41 rfl (lv_at hl 0 rfl) ?_
        refine va_get (D := (dC, dI)) (ci := 8) (v := .ref o_size) (C := RX8) (T := TX8) (N := 33) hx hb hts hiX8 hown hK hP 0 rfl rfl 6 (by decide) (hts (.fieldLink RX8 16 "GreenJarsModel" "size" "[I") (by decide +kernel)) (fun _ h9 => h9) rfl dX8_fails_42 ?_
        refine lv_iload_n hx hb dX8_fails_45 rfl (lv_at hl 1 rfl) ?_
        obtain ⟨h2, hf⟩ := g_chk hf
        refine va_iald hx hb hK hP 2 0 rfl rfl (gIn_vp h2) dX8_fails_46 ?_
        refine lv_aload_n hx hb dX8_fails_47 rfl (lv_at hl 0 rfl) ?_
        refine va_get (D := (dC, dI)) (ci := 8) (v := .ref o_trial) (C := RX8) (T := TX8) (N := 33) hx hb hts hiX8 hown hK hP 0 rfl rfl 11 (by decide) (hts (.fieldLink RX8 25 "GreenJarsModel" "trial" "[I") (by decide +kernel)) (fun _ h9 => h9) rfl dX8_fails_48 ?_
        refine lv_bipush (v := (18 : Int32)) hx hb dX8_fails_51 (by decide +kernel) ?_
        refine lv_iload_n hx hb dX8_fails_53 rfl (lv_at hl 1 rfl) ?_
        refine lv_iadd hx hb dX8_fails_54 ?_
        obtain ⟨h3, hf⟩ := g_chk hf
        refine va_iald hx hb hK hP 4 0 rfl rfl (gIn_vp h3) dX8_fails_55 ?_
        refine lv_icmp_ge (tgt := 61) hx hb dX8_fails_56 (by decide) (fun c4 => ?_) (fun c4 => ?_)
        · have hf := g_pos c4 hf
          refine lv_aload_n hx hb dX8_fails_61 rfl (lv_at hl 0 rfl) ?_
          refine lv_aload_n hx hb dX8_fails_62 rfl (lv_at hl 0 rfl) ?_
          refine va_get (D := (dC, dI)) (ci := 8) (v := .ref o_trial) (C := RX8) (T := TX8) (N := 33) hx hb hts hiX8 hown hK hP 0 rfl rfl 11 (by decide) (hts (.fieldLink RX8 25 "GreenJarsModel" "trial" "[I") (by decide +kernel)) (fun _ h9 => h9) rfl dX8_fails_63 ?_
          obtain ⟨y5, hc6, hf⟩ := g_b1 hf
          refine g_wVv (As := [.ref o_trial]) (rest := []) (wr := [(o_size, .inl (cI, 6, .inl f_size)), (o_page, .inl (cI, 37, .inl f_page))]) (wn := (w_X8_fails cI cZ cG o o_text o_kind o_size o_readJar o_page o_trial o_book o_kept o_isKept o_tastedFrom o_tastedTo o_order o_spots o_gains o_value y_thrown v_textSize v_place v_jars v_readPlaces v_readJars v_acts v_tasted v_seed y_some v_rowMany v_rowWay v_stuffWhich v_stuffNear v_keptMany v_keptFirst v_restMany v_restFirst f_kind f_size f_page y5)) ⟨hx, hb, hml, hown, hts⟩ (c_X8_goWeek l dC dI cI cZ cG o o_text o_kind o_size o_readJar o_page o_trial o_book o_kept o_isKept o_tastedFrom o_tastedTo o_order o_spots o_gains o_value o_trial H.size  y_thrown v_textSize v_place v_jars v_readPlaces v_readJars v_acts v_tasted v_seed y_some v_rowMany v_rowWay v_stuffWhich v_stuffNear v_keptMany v_keptFirst v_restMany v_restFirst f_kind y_trial hc6) (cwV 1 hts gX8_fails_X8_goWeek rfl rfl rfl (by decide +kernel) ⟨Nat.le_of_ble_eq_true rfl, Nat.le_of_ble_eq_true rfl⟩) hK hN hP hD hS hA [0, 1, 4] [2, 3] [2, 3, 0, 1, 4] rfl rfl (by decide) rfl (by decide) (by decide) rfl (by decide) (va_recv hK hP (ci := 8) (q0 := 0) rfl rfl) rfl hl.1 rfl (Nat.le_of_ble_eq_true rfl) dX8_fails_66 ⟨Nat.zero_le _, Nat.zero_le _⟩ (fun H locs hP hD hS => ?_)
          refine lv_iinc (v := (x2 + (1 : Int32))) (lv' := [(2, .int (x2 + (1 : Int32))), (0, .ref o), (1, .int a1)]) hx hb dX8_fails_69 hl (k := 2) rfl rfl (by decide) rfl (fun ls hl => ?_)
          refine lv_goto (tgt := 35) hx hb dX8_fails_72 (by decide) ?_
          exact ih35 (x2 + (1 : Int32)) y_thrown y_some y5 H locs ls hf (lv_sub hl [1, 2, 0] rfl) hP hD hS
        · have hf := g_neg c4 hf
          refine lv_iload_n hx hb dX8_fails_59 rfl (lv_at hl 2 rfl) ?_
          rw [hQ]
          cases hf
          exact W.iret hx hb hr (fun t ht hW => ⟨⟨_, (), rfl, rfl, by rw [ht]; exact hP, va_K.moved hW.alike hK, hD⟩, hS.F ht⟩) hS.2.2 dX8_fails_60
  unfold x8_fails at hf
  refine lv_aload_n hx hb dX8_fails_0 rfl (lv_at hl 0 rfl) ?_
  refine lv_iconst (v := (0 : Int32)) hx hb dX8_fails_1 (by decide) ?_
  refine va_put (D := (dC, dI)) (ci := 8) (v := .int (0 : Int32)) (ty := .int) (C := RX8) (T := TX8) (N := 33) hx hb hts hiX8 tyX8 tyX8_ok nmX8 hown hK hP hD hS 0 rfl rfl 0 (by decide) (hts (.fieldLink RX8 56 "GreenJarsModel" "thrown" "I") (by decide +kernel)) (fun _ h9 => h9) rfl (by decide +kernel) rfl rfl (Nat.le_of_ble_eq_true rfl) dX8_fails_2 (fun H locs hP hD hS => ?_)
  have hP : va_P (dC, dI) vwCl (w_X8_fails cI cZ cG o o_text o_kind o_size o_readJar o_page o_trial o_book o_kept o_isKept o_tastedFrom o_tastedTo o_order o_spots o_gains o_value (0 : Int32) v_textSize v_place v_jars v_readPlaces v_readJars v_acts v_tasted v_seed v_some v_rowMany v_rowWay v_stuffWhich v_stuffNear v_keptMany v_keptFirst v_restMany v_restFirst f_kind f_size f_page f_trial) H := hP
  have hD : va_D A (w_X8_fails cI cZ cG o o_text o_kind o_size o_readJar o_page o_trial o_book o_kept o_isKept o_tastedFrom o_tastedTo o_order o_spots o_gains o_value (0 : Int32) v_textSize v_place v_jars v_readPlaces v_readJars v_acts v_tasted v_seed v_some v_rowMany v_rowWay v_stuffWhich v_stuffNear v_keptMany v_keptFirst v_restMany v_restFirst f_kind f_size f_page f_trial) := hD
  refine lv_aload_n hx hb dX8_fails_5 rfl (lv_at hl 0 rfl) ?_
  refine lv_iload_n hx hb dX8_fails_6 rfl (lv_at hl 1 rfl) ?_
  obtain ⟨r7, hc8, hf⟩ := g_b1 hf
  refine g_rV (As := [.int a1]) (rest := []) ⟨hx, hb, hml, hown, hts⟩ (c_X8_noJar l dC dI cI cZ cG o o_text o_kind o_size o_readJar o_page o_trial o_book o_kept o_isKept o_tastedFrom o_tastedTo o_order o_spots o_gains o_value  (0 : Int32) v_textSize v_place v_jars v_readPlaces v_readJars v_acts v_tasted v_seed v_some v_rowMany v_rowWay v_stuffWhich v_stuffNear v_keptMany v_keptFirst v_restMany v_restFirst a1 hc8) (cwV 1 hts gX8_fails_X8_noJar rfl rfl rfl (by decide +kernel) ⟨Nat.le_of_ble_eq_true rfl, Nat.le_of_ble_eq_true rfl⟩) hK hN (hP.sub [0] rfl) (va_recv hK hP (ci := 8) (q0 := 0) rfl rfl) rfl hl.1 rfl (Nat.le_of_ble_eq_true rfl) dX8_fails_7 ⟨Nat.zero_le _, Nat.zero_le _⟩ ?_
  refine lv_if_eq (tgt := 15) hx hb dX8_fails_10 (by decide) (fun c9 => ?_) (fun c9 => ?_)
  · have hf := g_pos c9 hf
    refine lv_aload_n hx hb dX8_fails_15 rfl (lv_at hl 0 rfl) ?_
    refine va_get (D := (dC, dI)) (ci := 8) (v := .ref o_page) (C := RX8) (T := TX8) (N := 33) hx hb hts hiX8 hown hK hP 0 rfl rfl 10 (by decide) (hts (.fieldLink RX8 22 "GreenJarsModel" "page" "[I") (by decide +kernel)) (fun _ h9 => h9) rfl dX8_fails_16 ?_
    refine lv_iload_n hx hb dX8_fails_19 rfl (lv_at hl 1 rfl) ?_
    obtain ⟨r10, hc11, hf⟩ := g_b1 hf
    refine g_rS (As := [.ref o_page, .int a1]) (rest := []) ⟨hx, hb, hml, hown, hts⟩ (c_X8_isWhole l dC dI cI cZ cG o_page  f_page a1 hc11) (va_cwS 2 hts gX8_fails_X8_isWhole rfl rfl rfl (by decide +kernel) ⟨Nat.le_of_ble_eq_true rfl, Nat.le_of_ble_eq_true rfl⟩) hK hN (hP.sub [3] rfl) rfl hl.1 rfl (Nat.le_of_ble_eq_true rfl) dX8_fails_20 ⟨Nat.zero_le _, Nat.zero_le _⟩ ?_
    refine lv_if_ne (tgt := 29) hx hb dX8_fails_23 (by decide) (fun c12 => ?_) (fun c12 => ?_)
    · have hf := g_neg c12 hf
      refine lv_aload_n hx hb dX8_fails_29 rfl (lv_at hl 0 rfl) ?_
      obtain ⟨y13, y14, hc15, hf⟩ := g_b2 hf
      refine g_wVv (As := []) (rest := []) (wr := [(o_kind, .inl (cI, 6, .inl f_kind)), (o_size, .inl (cI, 6, .inl f_size))]) (wn := (w_X8_fails cI cZ cG o o_text o_kind o_size o_readJar o_page o_trial o_book o_kept o_isKept o_tastedFrom o_tastedTo o_order o_spots o_gains o_value (0 : Int32) v_textSize v_place v_jars v_readPlaces v_readJars v_acts v_tasted v_seed y13 v_rowMany v_rowWay v_stuffWhich v_stuffNear v_keptMany v_keptFirst v_restMany v_restFirst f_kind f_size f_page y14)) ⟨hx, hb, hml, hown, hts⟩ (c_X8_begin l dC dI cI cZ cG o o_text o_kind o_size o_readJar o_page o_trial o_book o_kept o_isKept o_tastedFrom o_tastedTo o_order o_spots o_gains o_value H.size  (0 : Int32) v_textSize v_place v_jars v_readPlaces v_readJars v_acts v_tasted v_seed v_some v_rowMany v_rowWay v_stuffWhich v_stuffNear v_keptMany v_keptFirst v_restMany v_restFirst f_page f_trial hc15) (cwV 0 hts gX8_fails_X8_begin rfl rfl rfl (by decide +kernel) ⟨Nat.le_of_ble_eq_true rfl, Nat.le_of_ble_eq_true rfl⟩) hK hN hP hD hS hA [0, 3, 4] [1, 2] [2, 0, 1, 3, 4] rfl rfl (by decide) rfl (by decide) (by decide) rfl (by decide) (va_recv hK hP (ci := 8) (q0 := 0) rfl rfl) rfl hl.1 rfl (Nat.le_of_ble_eq_true rfl) dX8_fails_30 ⟨Nat.zero_le _, Nat.zero_le _⟩ (fun H locs hP hD hS => ?_)
      refine lv_iconst (v := (0 : Int32)) hx hb dX8_fails_33 (by decide) ?_
      refine lv_istore_n (lv' := [(2, .int (0 : Int32)), (0, .ref o), (1, .int a1)]) hx hb dX8_fails_34 rfl hl (by decide) rfl (fun ls hl => ?_)
      exact L35 N (0 : Int32) (0 : Int32) y13 y14 H locs ls hf (lv_sub hl [1, 2, 0] rfl) hP hD hS
    · have hf := g_pos c12 hf
      refine lv_bipush (v := (-3 : Int32)) hx hb dX8_fails_26 (by decide +kernel) ?_
      rw [hQ]
      cases hf
      exact W.iret hx hb hr (fun t ht hW => ⟨⟨_, (), rfl, rfl, by rw [ht]; exact hP, va_K.moved hW.alike hK, hD⟩, hS.F ht⟩) hS.2.2 dX8_fails_28
  · have hf := g_neg c9 hf
    refine lv_iconst (v := (-1 : Int32)) hx hb dX8_fails_13 (by decide) ?_
    rw [hQ]
    cases hf
    exact W.iret hx hb hr (fun t ht hW => ⟨⟨_, (), rfl, rfl, by rw [ht]; exact hP, va_K.moved hW.alike hK, hD⟩, hS.F ht⟩) hS.2.2 dX8_fails_14
abbrev rm_X8_stuff : Room := { frames := 3, cells := 0, slots := 0, locals := 66 }
abbrev w_X8_stuff (cI cZ cG : ClassId) (o : Nat) (o_text : Nat) (o_kind : Nat) (o_size : Nat) (o_readJar : Nat) (o_page : Nat) (o_trial : Nat) (o_book : Nat) (o_kept : Nat) (o_isKept : Nat) (o_tastedFrom : Nat) (o_tastedTo : Nat) (o_order : Nat) (o_spots : Nat) (o_gains : Nat) (o_value : Nat) (v_thrown : Int32) (v_textSize : Int32) (v_place : Int32) (v_jars : Int32) (v_readPlaces : Int32) (v_readJars : Int32) (v_acts : Int32) (v_tasted : Int32) (v_seed : Int64) (v_some : Int32) (v_rowMany : Int32) (v_rowWay : Int32) (v_stuffWhich : Int32) (v_stuffNear : Int32) (v_keptMany : Int32) (v_keptFirst : Int32) (v_restMany : Int32) (v_restFirst : Int32) (f_kind : Nat → Int32) (f_page : Nat → Int32) (f_trial : Nat → Int32) : va_W := [(o, .inr (8, [.int v_thrown, .ref o_text, .int v_textSize, .int v_place, .int v_jars, .ref o_kind, .ref o_size, .int v_readPlaces, .int v_readJars, .ref o_readJar, .ref o_page, .ref o_trial, .ref o_book, .int v_acts, .ref o_kept, .ref o_isKept, .int v_tasted, .ref o_tastedFrom, .ref o_tastedTo, .long v_seed, .int v_some, .ref o_order, .ref o_spots, .int v_rowMany, .int v_rowWay, .int v_stuffWhich, .int v_stuffNear, .int v_keptMany, .int v_keptFirst, .int v_restMany, .int v_restFirst, .ref o_gains, .ref o_value])), (o_kind, .inl (cI, 6, .inl f_kind)), (o_page, .inl (cI, 37, .inl f_page)), (o_trial, .inl (cI, 37, .inl f_trial))]
set_option maxHeartbeats 4000000 in
set_option maxRecDepth 100000 in
theorem c_X8_stuff (l : Launch) (dC : Nat → ClassId) (dI : Nat → Nat → Nat) (cI cZ cG : ClassId) {N : Nat} (o : Nat) (o_text : Nat) (o_kind : Nat) (o_size : Nat) (o_readJar : Nat) (o_page : Nat) (o_trial : Nat) (o_book : Nat) (o_kept : Nat) (o_isKept : Nat) (o_tastedFrom : Nat) (o_tastedTo : Nat) (o_order : Nat) (o_spots : Nat) (o_gains : Nat) (o_value : Nat) (sz : Nat) (v_thrown : Int32) (v_textSize : Int32) (v_place : Int32) (v_jars : Int32) (v_readPlaces : Int32) (v_readJars : Int32) (v_acts : Int32) (v_tasted : Int32) (v_seed : Int64) (v_some : Int32) (v_rowMany : Int32) (v_rowWay : Int32) (v_stuffWhich : Int32) (v_stuffNear : Int32) (v_keptMany : Int32) (v_keptFirst : Int32) (v_restMany : Int32) (v_restFirst : Int32) (f_kind : Nat → Int32) (f_page : Nat → Int32) (f_trial : Nat → Int32) (a1 : Int32) (a2 : Int32) (a3 : Int32) (a4 : Int32) {r0 : Int32} {n_thrown : Int32} {n_some : Int32} {n_stuffWhich : Int32} {n_stuffNear : Int32} {n_trial : Nat → Int32} (hf : x8_stuff N v_thrown v_jars v_some v_stuffWhich v_stuffNear f_kind f_page f_trial a1 a2 a3 a4 = some (r0, n_thrown, n_some, n_stuffWhich, n_stuffNear, n_trial)) : Met l yX8_stuff wsX8_stuff rm_X8_stuff (va_Pc [.ref o, .int a1, .int a2, .int a3, .int a4] (gW (dC, dI) vwCl (gT cI cZ cG) (w_X8_stuff cI cZ cG o o_text o_kind o_size o_readJar o_page o_trial o_book o_kept o_isKept o_tastedFrom o_tastedTo o_order o_spots o_gains o_value v_thrown v_textSize v_place v_jars v_readPlaces v_readJars v_acts v_tasted v_seed v_some v_rowMany v_rowWay v_stuffWhich v_stuffNear v_keptMany v_keptFirst v_restMany v_restFirst f_kind f_page f_trial) sz)) (va_Qi (fun r _ => r = r0) (gE (dC, dI) vwCl (gT cI cZ cG) (w_X8_stuff cI cZ cG o o_text o_kind o_size o_readJar o_page o_trial o_book o_kept o_isKept o_tastedFrom o_tastedTo o_order o_spots o_gains o_value n_thrown v_textSize v_place v_jars v_readPlaces v_readJars v_acts v_tasted v_seed n_some v_rowMany v_rowWay n_stuffWhich n_stuffNear v_keptMany v_keptFirst v_restMany v_restFirst f_kind f_page n_trial) (va_A (w_X8_stuff cI cZ cG o o_text o_kind o_size o_readJar o_page o_trial o_book o_kept o_isKept o_tastedFrom o_tastedTo o_order o_spots o_gains o_value v_thrown v_textSize v_place v_jars v_readPlaces v_readJars v_acts v_tasted v_seed v_some v_rowMany v_rowWay v_stuffWhich v_stuffNear v_keptMany v_keptFirst v_restMany v_restFirst f_kind f_page f_trial) sz)) (va_A (w_X8_stuff cI cZ cG o o_text o_kind o_size o_readJar o_page o_trial o_book o_kept o_isKept o_tastedFrom o_tastedTo o_order o_spots o_gains o_value v_thrown v_textSize v_place v_jars v_readPlaces v_readJars v_acts v_tasted v_seed v_some v_rowMany v_rowWay v_stuffWhich v_stuffNear v_keptMany v_keptFirst v_restMany v_restFirst f_kind f_page f_trial) sz)) 0 0 (va_A (w_X8_stuff cI cZ cG o o_text o_kind o_size o_readJar o_page o_trial o_book o_kept o_isKept o_tastedFrom o_tastedTo o_order o_spots o_gains o_value v_thrown v_textSize v_place v_jars v_readPlaces v_readJars v_acts v_tasted v_seed v_some v_rowMany v_rowWay v_stuffWhich v_stuffNear v_keptMany v_keptFirst v_restMany v_restFirst f_kind f_page f_trial) sz) := by
  refine Met.ofW (cc := cX8_stuff) (maxL := 7) (ret := (some .int)) (by decide) rfl ?_
  intro p e s m args below meth c s₁ B hml hv
  obtain ⟨rfl, hv⟩ := hv
  obtain ⟨hsz, hP, hK, hN, hD0⟩ := hv
  have hx := B.exec
  have hb := B.bytes
  have hr := B.returns
  have hts := atoms_spec (ws := wsX8_stuff) B.pre
  have hown : s.vm.findClass RX8 = some m.cls := findClass_of_methodNamed B.named
  have hlocks := B.notSynchronized
  have hiX8 : ∀ w ∈ u_ws RX8 TX8 33, w ∈ wsX8_stuff := fun w h => List.mem_cons_of_mem _ (List.mem_append_right _ h)
  subst hsz
  have hD := hD0.self (sz := s.heap.size)
  generalize hAe : va_A (w_X8_stuff cI cZ cG o o_text o_kind o_size o_readJar o_page o_trial o_book o_kept o_isKept o_tastedFrom o_tastedTo o_order o_spots o_gains o_value v_thrown v_textSize v_place v_jars v_readPlaces v_readJars v_acts v_tasted v_seed v_some v_rowMany v_rowWay v_stuffWhich v_stuffNear v_keptMany v_keptFirst v_restMany v_restFirst f_kind f_page f_trial) s.heap.size = A at hD ⊢
  have hA : ∀ q : Nat, s.heap.size ≤ q → A q := fun q h => by rw [← hAe]; exact Or.inr h
  clear hD0
  have hS : va_S A s.heap s.heap [] := va_S.rf
  have hP : va_P (dC, dI) vwCl (w_X8_stuff cI cZ cG o o_text o_kind o_size o_readJar o_page o_trial o_book o_kept o_isKept o_tastedFrom o_tastedTo o_order o_spots o_gains o_value v_thrown v_textSize v_place v_jars v_readPlaces v_readJars v_acts v_tasted v_seed v_some v_rowMany v_rowWay v_stuffWhich v_stuffNear v_keptMany v_keptFirst v_restMany v_restFirst f_kind f_page f_trial) s.heap := hP
  obtain ⟨Q, hQ⟩ : ∃ Q : State → Prop, Q = MQ below (va_Qi (fun r _ => r = r0) (gE (dC, dI) vwCl (gT cI cZ cG) (w_X8_stuff cI cZ cG o o_text o_kind o_size o_readJar o_page o_trial o_book o_kept o_isKept o_tastedFrom o_tastedTo o_order o_spots o_gains o_value n_thrown v_textSize v_place v_jars v_readPlaces v_readJars v_acts v_tasted v_seed n_some v_rowMany v_rowWay n_stuffWhich n_stuffNear v_keptMany v_keptFirst v_restMany v_restFirst f_kind f_page n_trial) A) A) (([Value.ref o, Value.int a1, Value.int a2, Value.int a3, Value.int a4] : List Value).toArray) s 0 0 A := ⟨_, rfl⟩
  have hl := lv_entry ([.ref o, .int a1, .int a2, .int a3, .int a4]) (n := 7) (Nat.le_of_ble_eq_true rfl)
  rw [← hQ, lg_entry_eq]
  generalize (lg_sl ([.ref o, .int a1, .int a2, .int a3, .int a4]) ++ List.replicate (7 - (lg_sl ([.ref o, .int a1, .int a2, .int a3, .int a4])).length) Slot.unset).toArray = ls at hl ⊢
  have hl : lv_has ls 7 [(0, .ref o), (1, .int a1), (2, .int a2), (3, .int a3), (4, .int a4)] := hl
  generalize hH : s.heap = H at hP hS ⊢
  have hS : va_S A s.heap H [] := by rw [hH]; exact hS
  generalize hlc : ([] : List Loc) = locs at hS ⊢
  show W p l e rm_X8_stuff s m (([Value.ref o, Value.int a1, Value.int a2, Value.int a3, Value.int a4] : List Value).toArray) below meth c H locs 0 0 Q (F0 m 0 ls [])
  have L82 : ∀ (n82 : Nat), ∀ (x5 : Int32) (y_thrown : Int32) (y_some : Int32) (y_stuffWhich : Int32) (y_stuffNear : Int32) (y_trial : Nat → Int32) (H : Heap) (locs : List Loc) (ls : Array Slot), x8_stuff_b82 N v_jars f_kind f_page a1 a2 a3 a4 n82 x5 y_thrown y_some y_stuffWhich y_stuffNear y_trial = some (r0, n_thrown, n_some, n_stuffWhich, n_stuffNear, n_trial) → lv_has ls 7 [(0, .ref o), (1, .int a1), (2, .int a2), (3, .int a3), (4, .int a4), (5, .int x5)] → va_P (dC, dI) vwCl (w_X8_stuff cI cZ cG o o_text o_kind o_size o_readJar o_page o_trial o_book o_kept o_isKept o_tastedFrom o_tastedTo o_order o_spots o_gains o_value y_thrown v_textSize v_place v_jars v_readPlaces v_readJars v_acts v_tasted v_seed y_some v_rowMany v_rowWay y_stuffWhich y_stuffNear v_keptMany v_keptFirst v_restMany v_restFirst f_kind f_page y_trial) H → va_D A (w_X8_stuff cI cZ cG o o_text o_kind o_size o_readJar o_page o_trial o_book o_kept o_isKept o_tastedFrom o_tastedTo o_order o_spots o_gains o_value y_thrown v_textSize v_place v_jars v_readPlaces v_readJars v_acts v_tasted v_seed y_some v_rowMany v_rowWay y_stuffWhich y_stuffNear v_keptMany v_keptFirst v_restMany v_restFirst f_kind f_page y_trial) → va_S A s.heap H locs → W p l e rm_X8_stuff s m (([Value.ref o, Value.int a1, Value.int a2, Value.int a3, Value.int a4] : List Value).toArray) below meth c H locs 0 0 Q (F0 m 82 ls []) := by
    intro n82
    induction n82 with
    | zero =>
      intro x5 y_thrown y_some y_stuffWhich y_stuffNear y_trial H locs ls hf hl hP hD hS
      exact g_no hf
    | succ n82 ih82 =>
      have J177 : ∀ (x5 : Int32) (t1 : Int32) (y_thrown : Int32) (y_some : Int32) (y_stuffWhich : Int32) (y_stuffNear : Int32) (y_trial : Nat → Int32) (H : Heap) (locs : List Loc) (ls : Array Slot), x8_stuff_b177 N v_jars f_kind f_page a1 a2 a3 a4 (x8_stuff_b82 N v_jars f_kind f_page a1 a2 a3 a4 n82) x5 t1 y_thrown y_some y_stuffWhich y_stuffNear y_trial = some (r0, n_thrown, n_some, n_stuffWhich, n_stuffNear, n_trial) → lv_has ls 7 [(0, .ref o), (1, .int a1), (2, .int a2), (3, .int a3), (4, .int a4), (5, .int x5)] → va_P (dC, dI) vwCl (w_X8_stuff cI cZ cG o o_text o_kind o_size o_readJar o_page o_trial o_book o_kept o_isKept o_tastedFrom o_tastedTo o_order o_spots o_gains o_value y_thrown v_textSize v_place v_jars v_readPlaces v_readJars v_acts v_tasted v_seed y_some v_rowMany v_rowWay y_stuffWhich y_stuffNear v_keptMany v_keptFirst v_restMany v_restFirst f_kind f_page y_trial) H → va_D A (w_X8_stuff cI cZ cG o o_text o_kind o_size o_readJar o_page o_trial o_book o_kept o_isKept o_tastedFrom o_tastedTo o_order o_spots o_gains o_value y_thrown v_textSize v_place v_jars v_readPlaces v_readJars v_acts v_tasted v_seed y_some v_rowMany v_rowWay y_stuffWhich y_stuffNear v_keptMany v_keptFirst v_restMany v_restFirst f_kind f_page y_trial) → va_S A s.heap H locs → W p l e rm_X8_stuff s m (([Value.ref o, Value.int a1, Value.int a2, Value.int a3, Value.int a4] : List Value).toArray) below meth c H locs 0 0 Q (F0 m 177 ls [.int t1, .ref o]) := by
        intro x5 t1 y_thrown y_some y_stuffWhich y_stuffNear y_trial H locs ls hf hl hP hD hS
        unfold x8_stuff_b177 at hf
        refine va_put (D := (dC, dI)) (ci := 8) (v := .int t1) (ty := .int) (C := RX8) (T := TX8) (N := 33) hx hb hts hiX8 tyX8 tyX8_ok nmX8 hown hK hP hD hS 0 rfl rfl 26 (by decide) (hts (.fieldLink RX8 184 "GreenJarsModel" "stuffNear" "I") (by decide +kernel)) (fun _ h9 => h9) rfl (by decide +kernel) rfl rfl (Nat.le_of_ble_eq_true rfl) dX8_stuff_177 (fun H locs hP hD hS => ?_)
        have hP : va_P (dC, dI) vwCl (w_X8_stuff cI cZ cG o o_text o_kind o_size o_readJar o_page o_trial o_book o_kept o_isKept o_tastedFrom o_tastedTo o_order o_spots o_gains o_value y_thrown v_textSize v_place v_jars v_readPlaces v_readJars v_acts v_tasted v_seed y_some v_rowMany v_rowWay y_stuffWhich t1 v_keptMany v_keptFirst v_restMany v_restFirst f_kind f_page y_trial) H := hP
        have hD : va_D A (w_X8_stuff cI cZ cG o o_text o_kind o_size o_readJar o_page o_trial o_book o_kept o_isKept o_tastedFrom o_tastedTo o_order o_spots o_gains o_value y_thrown v_textSize v_place v_jars v_readPlaces v_readJars v_acts v_tasted v_seed y_some v_rowMany v_rowWay y_stuffWhich t1 v_keptMany v_keptFirst v_restMany v_restFirst f_kind f_page y_trial) := hD
        refine lv_iinc (v := (x5 + (1 : Int32))) (lv' := [(5, .int (x5 + (1 : Int32))), (0, .ref o), (1, .int a1), (2, .int a2), (3, .int a3), (4, .int a4)]) hx hb dX8_stuff_180 hl (k := 5) rfl rfl (by decide) rfl (fun ls hl => ?_)
        refine lv_goto (tgt := 82) hx hb dX8_stuff_183 (by decide) ?_
        exact ih82 (x5 + (1 : Int32)) y_thrown y_some y_stuffWhich t1 y_trial H locs ls hf (lv_sub hl [1, 2, 3, 4, 5, 0] rfl) hP hD hS
      have J155 : ∀ (x5 : Int32) (x6 : Int32) (t1 : Int32) (y_thrown : Int32) (y_some : Int32) (y_stuffWhich : Int32) (y_stuffNear : Int32) (y_trial : Nat → Int32) (H : Heap) (locs : List Loc) (ls : Array Slot), x8_stuff_b155 N v_jars f_kind f_page a1 a2 a3 a4 (x8_stuff_b82 N v_jars f_kind f_page a1 a2 a3 a4 n82) x5 x6 t1 y_thrown y_some y_stuffWhich y_stuffNear y_trial = some (r0, n_thrown, n_some, n_stuffWhich, n_stuffNear, n_trial) → lv_has ls 7 [(0, .ref o), (1, .int a1), (2, .int a2), (3, .int a3), (4, .int a4), (5, .int x5), (6, .int x6)] → va_P (dC, dI) vwCl (w_X8_stuff cI cZ cG o o_text o_kind o_size o_readJar o_page o_trial o_book o_kept o_isKept o_tastedFrom o_tastedTo o_order o_spots o_gains o_value y_thrown v_textSize v_place v_jars v_readPlaces v_readJars v_acts v_tasted v_seed y_some v_rowMany v_rowWay y_stuffWhich y_stuffNear v_keptMany v_keptFirst v_restMany v_restFirst f_kind f_page y_trial) H → va_D A (w_X8_stuff cI cZ cG o o_text o_kind o_size o_readJar o_page o_trial o_book o_kept o_isKept o_tastedFrom o_tastedTo o_order o_spots o_gains o_value y_thrown v_textSize v_place v_jars v_readPlaces v_readJars v_acts v_tasted v_seed y_some v_rowMany v_rowWay y_stuffWhich y_stuffNear v_keptMany v_keptFirst v_restMany v_restFirst f_kind f_page y_trial) → va_S A s.heap H locs → W p l e rm_X8_stuff s m (([Value.ref o, Value.int a1, Value.int a2, Value.int a3, Value.int a4] : List Value).toArray) below meth c H locs 0 0 Q (F0 m 155 ls [.int t1, .ref o]) := by
        intro x5 x6 t1 y_thrown y_some y_stuffWhich y_stuffNear y_trial H locs ls hf hl hP hD hS
        unfold x8_stuff_b155 at hf
        refine va_put (D := (dC, dI)) (ci := 8) (v := .int t1) (ty := .int) (C := RX8) (T := TX8) (N := 33) hx hb hts hiX8 tyX8 tyX8_ok nmX8 hown hK hP hD hS 0 rfl rfl 25 (by decide) (hts (.fieldLink RX8 181 "GreenJarsModel" "stuffWhich" "I") (by decide +kernel)) (fun _ h9 => h9) rfl (by decide +kernel) rfl rfl (Nat.le_of_ble_eq_true rfl) dX8_stuff_155 (fun H locs hP hD hS => ?_)
        have hP : va_P (dC, dI) vwCl (w_X8_stuff cI cZ cG o o_text o_kind o_size o_readJar o_page o_trial o_book o_kept o_isKept o_tastedFrom o_tastedTo o_order o_spots o_gains o_value y_thrown v_textSize v_place v_jars v_readPlaces v_readJars v_acts v_tasted v_seed y_some v_rowMany v_rowWay t1 y_stuffNear v_keptMany v_keptFirst v_restMany v_restFirst f_kind f_page y_trial) H := hP
        have hD : va_D A (w_X8_stuff cI cZ cG o o_text o_kind o_size o_readJar o_page o_trial o_book o_kept o_isKept o_tastedFrom o_tastedTo o_order o_spots o_gains o_value y_thrown v_textSize v_place v_jars v_readPlaces v_readJars v_acts v_tasted v_seed y_some v_rowMany v_rowWay t1 y_stuffNear v_keptMany v_keptFirst v_restMany v_restFirst f_kind f_page y_trial) := hD
        refine lv_aload_n hx hb dX8_stuff_158 rfl (lv_at hl 0 rfl) ?_
        refine lv_iload hx hb dX8_stuff_159 (lv_at hl 6 rfl) ?_
        refine lv_aload_n hx hb dX8_stuff_161 rfl (lv_at hl 0 rfl) ?_
        refine va_get (D := (dC, dI)) (ci := 8) (v := .int y_stuffNear) (C := RX8) (T := TX8) (N := 33) hx hb hts hiX8 hown hK hP 0 rfl rfl 26 (by decide) (hts (.fieldLink RX8 184 "GreenJarsModel" "stuffNear" "I") (by decide +kernel)) (fun _ h9 => h9) rfl dX8_stuff_162 ?_
        refine lv_icmp_ge (tgt := 173) hx hb dX8_stuff_165 (by decide) (fun c1 => ?_) (fun c1 => ?_)
        · have hf := g_pos c1 hf
          refine lv_aload_n hx hb dX8_stuff_173 rfl (lv_at hl 0 rfl) ?_
          refine va_get (D := (dC, dI)) (ci := 8) (v := .int y_stuffNear) (C := RX8) (T := TX8) (N := 33) hx hb hts hiX8 hown hK hP 0 rfl rfl 26 (by decide) (hts (.fieldLink RX8 184 "GreenJarsModel" "stuffNear" "I") (by decide +kernel)) (fun _ h9 => h9) rfl dX8_stuff_174 ?_
          exact J177 x5 y_stuffNear y_thrown y_some t1 y_stuffNear y_trial H locs ls hf (lv_sub hl [0, 1, 2, 3, 4, 5] rfl) hP hD hS
        · have hf := g_neg c1 hf
          refine lv_iload hx hb dX8_stuff_168 (lv_at hl 6 rfl) ?_
          refine lv_goto (tgt := 177) hx hb dX8_stuff_170 (by decide) ?_
          exact J177 x5 x6 y_thrown y_some t1 y_stuffNear y_trial H locs ls hf (lv_sub hl [0, 1, 2, 3, 4, 5] rfl) hP hD hS
      have J134 : ∀ (x5 : Int32) (t0 : Int32) (y_thrown : Int32) (y_some : Int32) (y_stuffWhich : Int32) (y_stuffNear : Int32) (y_trial : Nat → Int32) (H : Heap) (locs : List Loc) (ls : Array Slot), x8_stuff_b134 N v_jars f_kind f_page a1 a2 a3 a4 (x8_stuff_b82 N v_jars f_kind f_page a1 a2 a3 a4 n82) x5 t0 y_thrown y_some y_stuffWhich y_stuffNear y_trial = some (r0, n_thrown, n_some, n_stuffWhich, n_stuffNear, n_trial) → lv_has ls 7 [(0, .ref o), (1, .int a1), (2, .int a2), (3, .int a3), (4, .int a4), (5, .int x5)] → va_P (dC, dI) vwCl (w_X8_stuff cI cZ cG o o_text o_kind o_size o_readJar o_page o_trial o_book o_kept o_isKept o_tastedFrom o_tastedTo o_order o_spots o_gains o_value y_thrown v_textSize v_place v_jars v_readPlaces v_readJars v_acts v_tasted v_seed y_some v_rowMany v_rowWay y_stuffWhich y_stuffNear v_keptMany v_keptFirst v_restMany v_restFirst f_kind f_page y_trial) H → va_D A (w_X8_stuff cI cZ cG o o_text o_kind o_size o_readJar o_page o_trial o_book o_kept o_isKept o_tastedFrom o_tastedTo o_order o_spots o_gains o_value y_thrown v_textSize v_place v_jars v_readPlaces v_readJars v_acts v_tasted v_seed y_some v_rowMany v_rowWay y_stuffWhich y_stuffNear v_keptMany v_keptFirst v_restMany v_restFirst f_kind f_page y_trial) → va_S A s.heap H locs → W p l e rm_X8_stuff s m (([Value.ref o, Value.int a1, Value.int a2, Value.int a3, Value.int a4] : List Value).toArray) below meth c H locs 0 0 Q (F0 m 134 ls [.int t0]) := by
        intro x5 t0 y_thrown y_some y_stuffWhich y_stuffNear y_trial H locs ls hf hl hP hD hS
        unfold x8_stuff_b134 at hf
        refine lv_istore (lv' := [(6, .int t0), (0, .ref o), (1, .int a1), (2, .int a2), (3, .int a3), (4, .int a4), (5, .int x5)]) hx hb dX8_stuff_134 hl (by decide) rfl (fun ls hl => ?_)
        refine lv_aload_n hx hb dX8_stuff_136 rfl (lv_at hl 1 rfl) ?_
        refine lv_iload hx hb dX8_stuff_137 (lv_at hl 0 rfl) ?_
        refine lv_aload_n hx hb dX8_stuff_139 rfl (lv_at hl 1 rfl) ?_
        refine va_get (D := (dC, dI)) (ci := 8) (v := .int y_stuffNear) (C := RX8) (T := TX8) (N := 33) hx hb hts hiX8 hown hK hP 0 rfl rfl 26 (by decide) (hts (.fieldLink RX8 184 "GreenJarsModel" "stuffNear" "I") (by decide +kernel)) (fun _ h9 => h9) rfl dX8_stuff_140 ?_
        refine lv_icmp_ge (tgt := 151) hx hb dX8_stuff_143 (by decide) (fun c2 => ?_) (fun c2 => ?_)
        · have hf := g_pos c2 hf
          refine lv_aload_n hx hb dX8_stuff_151 rfl (lv_at hl 1 rfl) ?_
          refine va_get (D := (dC, dI)) (ci := 8) (v := .int y_stuffWhich) (C := RX8) (T := TX8) (N := 33) hx hb hts hiX8 hown hK hP 0 rfl rfl 25 (by decide) (hts (.fieldLink RX8 181 "GreenJarsModel" "stuffWhich" "I") (by decide +kernel)) (fun _ h9 => h9) rfl dX8_stuff_152 ?_
          exact J155 x5 t0 y_stuffWhich y_thrown y_some y_stuffWhich y_stuffNear y_trial H locs ls hf (lv_sub hl [1, 2, 3, 4, 5, 6, 0] rfl) hP hD hS
        · have hf := g_neg c2 hf
          refine lv_iload hx hb dX8_stuff_146 (lv_at hl 6 rfl) ?_
          refine lv_goto (tgt := 155) hx hb dX8_stuff_148 (by decide) ?_
          exact J155 x5 t0 x5 y_thrown y_some y_stuffWhich y_stuffNear y_trial H locs ls hf (lv_sub hl [1, 2, 3, 4, 5, 6, 0] rfl) hP hD hS
      intro x5 y_thrown y_some y_stuffWhich y_stuffNear y_trial H locs ls hf hl hP hD hS
      unfold x8_stuff_b82 at hf
      refine lv_iload hx hb dX8_stuff_82 (lv_at hl 5 rfl) ?_
      refine lv_iconst (v := (4 : Int32)) hx hb dX8_stuff_84 (by decide) ?_
      refine lv_icmp_ge (tgt := 186) hx hb dX8_stuff_85 (by decide) (fun c3 => ?_) (fun c3 => ?_)
      · have hf := g_pos c3 hf
        refine lv_iload hx hb dX8_stuff_186 (lv_at hl 4 rfl) ?_
        refine lv_if_ne (tgt := 198) hx hb dX8_stuff_188 (by decide) (fun c4 => ?_) (fun c4 => ?_)
        · have hf := g_neg c4 hf
          refine lv_aload_n hx hb dX8_stuff_198 rfl (lv_at hl 0 rfl) ?_
          refine va_get (D := (dC, dI)) (ci := 8) (v := .int y_stuffNear) (C := RX8) (T := TX8) (N := 33) hx hb hts hiX8 hown hK hP 0 rfl rfl 26 (by decide) (hts (.fieldLink RX8 184 "GreenJarsModel" "stuffNear" "I") (by decide +kernel)) (fun _ h9 => h9) rfl dX8_stuff_199 ?_
          rw [hQ]
          cases hf
          exact W.iret hx hb hr (fun t ht hW => ⟨⟨_, (), rfl, rfl, by rw [ht]; exact hP, va_K.moved hW.alike hK, hD⟩, hS.F ht⟩) hS.2.2 dX8_stuff_202
        · have hf := g_pos c4 hf
          refine lv_aload_n hx hb dX8_stuff_191 rfl (lv_at hl 0 rfl) ?_
          refine va_get (D := (dC, dI)) (ci := 8) (v := .int y_stuffWhich) (C := RX8) (T := TX8) (N := 33) hx hb hts hiX8 hown hK hP 0 rfl rfl 25 (by decide) (hts (.fieldLink RX8 181 "GreenJarsModel" "stuffWhich" "I") (by decide +kernel)) (fun _ h9 => h9) rfl dX8_stuff_192 ?_
          refine lv_goto (tgt := 202) hx hb dX8_stuff_195 (by decide) ?_
          rw [hQ]
          cases hf
          exact W.iret hx hb hr (fun t ht hW => ⟨⟨_, (), rfl, rfl, by rw [ht]; exact hP, va_K.moved hW.alike hK, hD⟩, hS.F ht⟩) hS.2.2 dX8_stuff_202
      · have hf := g_neg c3 hf
        refine lv_aload_n hx hb dX8_stuff_88 rfl (lv_at hl 0 rfl) ?_
        obtain ⟨y5, y6, hc7, hf⟩ := g_b2 hf
        refine g_wVv (As := []) (rest := []) (wr := [(o_kind, .inl (cI, 6, .inl f_kind))]) (wn := (w_X8_stuff cI cZ cG o o_text o_kind o_size o_readJar o_page o_trial o_book o_kept o_isKept o_tastedFrom o_tastedTo o_order o_spots o_gains o_value y_thrown v_textSize v_place v_jars v_readPlaces v_readJars v_acts v_tasted v_seed y5 v_rowMany v_rowWay y_stuffWhich y_stuffNear v_keptMany v_keptFirst v_restMany v_restFirst f_kind f_page y6)) ⟨hx, hb, hml, hown, hts⟩ (c_X8_begin l dC dI cI cZ cG o o_text o_kind o_size o_readJar o_page o_trial o_book o_kept o_isKept o_tastedFrom o_tastedTo o_order o_spots o_gains o_value H.size  y_thrown v_textSize v_place v_jars v_readPlaces v_readJars v_acts v_tasted v_seed y_some v_rowMany v_rowWay y_stuffWhich y_stuffNear v_keptMany v_keptFirst v_restMany v_restFirst f_page y_trial hc7) (cwV 0 hts gX8_stuff_X8_begin rfl rfl rfl (by decide +kernel) ⟨Nat.le_of_ble_eq_true rfl, Nat.le_of_ble_eq_true rfl⟩) hK hN hP hD hS hA [0, 2, 3] [1] [1, 0, 2, 3] rfl rfl (by decide) rfl (by decide) (by decide) rfl (by decide) (va_recv hK hP (ci := 8) (q0 := 0) rfl rfl) rfl hl.1 rfl (Nat.le_of_ble_eq_true rfl) dX8_stuff_89 ⟨Nat.zero_le _, Nat.zero_le _⟩ (fun H locs hP hD hS => ?_)
        refine lv_aload_n hx hb dX8_stuff_92 rfl (lv_at hl 0 rfl) ?_
        refine va_get (D := (dC, dI)) (ci := 8) (v := .ref o_trial) (C := RX8) (T := TX8) (N := 33) hx hb hts hiX8 hown hK hP 0 rfl rfl 11 (by decide) (hts (.fieldLink RX8 25 "GreenJarsModel" "trial" "[I") (by decide +kernel)) (fun _ h9 => h9) rfl dX8_stuff_93 ?_
        refine lv_bipush (v := (12 : Int32)) hx hb dX8_stuff_96 (by decide +kernel) ?_
        refine lv_iload_n hx hb dX8_stuff_98 rfl (lv_at hl 1 rfl) ?_
        refine lv_iadd hx hb dX8_stuff_99 ?_
        refine lv_iload hx hb dX8_stuff_100 (lv_at hl 5 rfl) ?_
        obtain ⟨h8, hf⟩ := g_chk hf
        refine va_iast hx hb hK hP hD hS 3 0 rfl rfl (gIn_vp h8) dX8_stuff_102 (fun H locs hP hD hS => ?_)
        have hP : va_P (dC, dI) vwCl (w_X8_stuff cI cZ cG o o_text o_kind o_size o_readJar o_page o_trial o_book o_kept o_isKept o_tastedFrom o_tastedTo o_order o_spots o_gains o_value y_thrown v_textSize v_place v_jars v_readPlaces v_readJars v_acts v_tasted v_seed y5 v_rowMany v_rowWay y_stuffWhich y_stuffNear v_keptMany v_keptFirst v_restMany v_restFirst f_kind f_page (upd y6 ((12 : Int32) + a1).toNatClampNeg x5)) H := hP
        have hD : va_D A (w_X8_stuff cI cZ cG o o_text o_kind o_size o_readJar o_page o_trial o_book o_kept o_isKept o_tastedFrom o_tastedTo o_order o_spots o_gains o_value y_thrown v_textSize v_place v_jars v_readPlaces v_readJars v_acts v_tasted v_seed y5 v_rowMany v_rowWay y_stuffWhich y_stuffNear v_keptMany v_keptFirst v_restMany v_restFirst f_kind f_page (upd y6 ((12 : Int32) + a1).toNatClampNeg x5)) := hD
        refine lv_aload_n hx hb dX8_stuff_103 rfl (lv_at hl 0 rfl) ?_
        refine lv_iload_n hx hb dX8_stuff_104 rfl (lv_at hl 2 rfl) ?_
        obtain ⟨y9, hc10, hf⟩ := g_b1 hf
        refine g_wVv (As := [.int a2]) (rest := []) (wr := [(o_page, .inl (cI, 37, .inl f_page))]) (wn := (w_X8_stuff cI cZ cG o o_text o_kind o_size o_readJar o_page o_trial o_book o_kept o_isKept o_tastedFrom o_tastedTo o_order o_spots o_gains o_value y_thrown v_textSize v_place v_jars v_readPlaces v_readJars v_acts v_tasted v_seed y5 v_rowMany v_rowWay y_stuffWhich y_stuffNear v_keptMany v_keptFirst v_restMany v_restFirst f_kind f_page y9)) ⟨hx, hb, hml, hown, hts⟩ (c_X8_goWeeks l dC dI cI cZ cG o o_text o_kind o_size o_readJar o_page o_trial o_book o_kept o_isKept o_tastedFrom o_tastedTo o_order o_spots o_gains o_value H.size  y_thrown v_textSize v_place v_jars v_readPlaces v_readJars v_acts v_tasted v_seed y5 v_rowMany v_rowWay y_stuffWhich y_stuffNear v_keptMany v_keptFirst v_restMany v_restFirst f_kind (upd y6 ((12 : Int32) + a1).toNatClampNeg x5) a2 hc10) (cwV 1 hts gX8_stuff_X8_goWeeks rfl rfl rfl (by decide +kernel) ⟨Nat.le_of_ble_eq_true rfl, Nat.le_of_ble_eq_true rfl⟩) hK hN hP hD hS hA [0, 1, 3] [2] [1, 2, 0, 3] rfl rfl (by decide) rfl (by decide) (by decide) rfl (by decide) (va_recv hK hP (ci := 8) (q0 := 0) rfl rfl) rfl hl.1 rfl (Nat.le_of_ble_eq_true rfl) dX8_stuff_105 ⟨Nat.zero_le _, Nat.zero_le _⟩ (fun H locs hP hD hS => ?_)
        refine lv_aload_n hx hb dX8_stuff_108 rfl (lv_at hl 0 rfl) ?_
        refine va_get (D := (dC, dI)) (ci := 8) (v := .ref o_trial) (C := RX8) (T := TX8) (N := 33) hx hb hts hiX8 hown hK hP 0 rfl rfl 11 (by decide) (hts (.fieldLink RX8 25 "GreenJarsModel" "trial" "[I") (by decide +kernel)) (fun _ h9 => h9) rfl dX8_stuff_109 ?_
        refine lv_bipush (v := (6 : Int32)) hx hb dX8_stuff_112 (by decide +kernel) ?_
        refine lv_iload_n hx hb dX8_stuff_114 rfl (lv_at hl 1 rfl) ?_
        refine lv_iadd hx hb dX8_stuff_115 ?_
        obtain ⟨h11, hf⟩ := g_chk hf
        refine va_iald hx hb hK hP 3 0 rfl rfl (gIn_vp h11) dX8_stuff_116 ?_
        refine lv_iload_n hx hb dX8_stuff_117 rfl (lv_at hl 3 rfl) ?_
        refine lv_isub hx hb dX8_stuff_118 ?_
        refine lv_istore (lv' := [(6, .int ((y9 ((6 : Int32) + a1).toNatClampNeg) - a3)), (0, .ref o), (1, .int a1), (2, .int a2), (3, .int a3), (4, .int a4), (5, .int x5)]) hx hb dX8_stuff_119 hl (by decide) rfl (fun ls hl => ?_)
        refine lv_iload hx hb dX8_stuff_121 (lv_at hl 0 rfl) ?_
        refine lv_if_ge (tgt := 132) hx hb dX8_stuff_123 (by decide) (fun c12 => ?_) (fun c12 => ?_)
        · have hf := g_pos c12 hf
          refine lv_iload hx hb dX8_stuff_132 (lv_at hl 0 rfl) ?_
          exact J134 x5 ((y9 ((6 : Int32) + a1).toNatClampNeg) - a3) y_thrown y5 y_stuffWhich y_stuffNear y9 H locs ls hf (lv_sub hl [1, 2, 3, 4, 5, 6] rfl) hP hD hS
        · have hf := g_neg c12 hf
          refine lv_iload hx hb dX8_stuff_126 (lv_at hl 0 rfl) ?_
          refine lv_ineg hx hb dX8_stuff_128 ?_
          refine lv_goto (tgt := 134) hx hb dX8_stuff_129 (by decide) ?_
          exact J134 x5 (-((y9 ((6 : Int32) + a1).toNatClampNeg) - a3)) y_thrown y5 y_stuffWhich y_stuffNear y9 H locs ls hf (lv_sub hl [1, 2, 3, 4, 5, 6] rfl) hP hD hS
  unfold x8_stuff at hf
  refine lv_aload_n hx hb dX8_stuff_0 rfl (lv_at hl 0 rfl) ?_
  refine lv_iconst (v := (0 : Int32)) hx hb dX8_stuff_1 (by decide) ?_
  refine va_put (D := (dC, dI)) (ci := 8) (v := .int (0 : Int32)) (ty := .int) (C := RX8) (T := TX8) (N := 33) hx hb hts hiX8 tyX8 tyX8_ok nmX8 hown hK hP hD hS 0 rfl rfl 0 (by decide) (hts (.fieldLink RX8 56 "GreenJarsModel" "thrown" "I") (by decide +kernel)) (fun _ h9 => h9) rfl (by decide +kernel) rfl rfl (Nat.le_of_ble_eq_true rfl) dX8_stuff_2 (fun H locs hP hD hS => ?_)
  have hP : va_P (dC, dI) vwCl (w_X8_stuff cI cZ cG o o_text o_kind o_size o_readJar o_page o_trial o_book o_kept o_isKept o_tastedFrom o_tastedTo o_order o_spots o_gains o_value (0 : Int32) v_textSize v_place v_jars v_readPlaces v_readJars v_acts v_tasted v_seed v_some v_rowMany v_rowWay v_stuffWhich v_stuffNear v_keptMany v_keptFirst v_restMany v_restFirst f_kind f_page f_trial) H := hP
  have hD : va_D A (w_X8_stuff cI cZ cG o o_text o_kind o_size o_readJar o_page o_trial o_book o_kept o_isKept o_tastedFrom o_tastedTo o_order o_spots o_gains o_value (0 : Int32) v_textSize v_place v_jars v_readPlaces v_readJars v_acts v_tasted v_seed v_some v_rowMany v_rowWay v_stuffWhich v_stuffNear v_keptMany v_keptFirst v_restMany v_restFirst f_kind f_page f_trial) := hD
  refine lv_aload_n hx hb dX8_stuff_5 rfl (lv_at hl 0 rfl) ?_
  refine lv_iload_n hx hb dX8_stuff_6 rfl (lv_at hl 1 rfl) ?_
  obtain ⟨r13, hc14, hf⟩ := g_b1 hf
  refine g_rV (As := [.int a1]) (rest := []) ⟨hx, hb, hml, hown, hts⟩ (c_X8_noJar l dC dI cI cZ cG o o_text o_kind o_size o_readJar o_page o_trial o_book o_kept o_isKept o_tastedFrom o_tastedTo o_order o_spots o_gains o_value  (0 : Int32) v_textSize v_place v_jars v_readPlaces v_readJars v_acts v_tasted v_seed v_some v_rowMany v_rowWay v_stuffWhich v_stuffNear v_keptMany v_keptFirst v_restMany v_restFirst a1 hc14) (cwV 1 hts gX8_stuff_X8_noJar rfl rfl rfl (by decide +kernel) ⟨Nat.le_of_ble_eq_true rfl, Nat.le_of_ble_eq_true rfl⟩) hK hN (hP.sub [0] rfl) (va_recv hK hP (ci := 8) (q0 := 0) rfl rfl) rfl hl.1 rfl (Nat.le_of_ble_eq_true rfl) dX8_stuff_7 ⟨Nat.zero_le _, Nat.zero_le _⟩ ?_
  refine lv_if_eq (tgt := 15) hx hb dX8_stuff_10 (by decide) (fun c15 => ?_) (fun c15 => ?_)
  · have hf := g_pos c15 hf
    refine lv_iload_n hx hb dX8_stuff_15 rfl (lv_at hl 2 rfl) ?_
    refine lv_i2l hx hb dX8_stuff_16 rfl ?_
    refine lv_lconst (v := (1 : Int64)) hx hb dX8_stuff_17 (by decide) ?_
    refine lv_ldc2 (v := (12 : Int64)) hx hb hown (hts (.constantLong RX8 179 (12 : Int64)) (by decide +kernel)) dX8_stuff_18 ?_
    obtain ⟨r16, hc17, hf⟩ := g_b1 hf
    refine g_rS (As := [.long a2.toInt64, .long (1 : Int64), .long (12 : Int64)]) (rest := []) ⟨hx, hb, hml, hown, hts⟩ (c_X8_in l dC dI cI cZ cG    a2.toInt64 (1 : Int64) (12 : Int64) hc17) (va_cwS 3 hts gX8_stuff_X8_in rfl rfl rfl (by decide +kernel) ⟨Nat.le_of_ble_eq_true rfl, Nat.le_of_ble_eq_true rfl⟩) hK hN (hP.sub [] rfl) rfl hl.1 rfl (Nat.le_of_ble_eq_true rfl) dX8_stuff_21 ⟨Nat.zero_le _, Nat.zero_le _⟩ ?_
    refine lv_if_eq (tgt := 50) hx hb dX8_stuff_24 (by decide) (fun c18 => ?_) (fun c18 => ?_)
    · have hf := g_pos c18 hf
      refine lv_bipush (v := (-2 : Int32)) hx hb dX8_stuff_50 (by decide +kernel) ?_
      rw [hQ]
      cases hf
      exact W.iret hx hb hr (fun t ht hW => ⟨⟨_, (), rfl, rfl, by rw [ht]; exact hP, va_K.moved hW.alike hK, hD⟩, hS.F ht⟩) hS.2.2 dX8_stuff_52
    · have hf := g_neg c18 hf
      refine lv_iload_n hx hb dX8_stuff_27 rfl (lv_at hl 3 rfl) ?_
      refine lv_i2l hx hb dX8_stuff_28 rfl ?_
      refine lv_lconst (v := (0 : Int64)) hx hb dX8_stuff_29 (by decide) ?_
      refine lv_ldc2 (v := (9 : Int64)) hx hb hown (hts (.constantLong RX8 177 (9 : Int64)) (by decide +kernel)) dX8_stuff_30 ?_
      obtain ⟨r19, hc20, hf⟩ := g_b1 hf
      refine g_rS (As := [.long a3.toInt64, .long (0 : Int64), .long (9 : Int64)]) (rest := []) ⟨hx, hb, hml, hown, hts⟩ (c_X8_in l dC dI cI cZ cG    a3.toInt64 (0 : Int64) (9 : Int64) hc20) (va_cwS 3 hts gX8_stuff_X8_in rfl rfl rfl (by decide +kernel) ⟨Nat.le_of_ble_eq_true rfl, Nat.le_of_ble_eq_true rfl⟩) hK hN (hP.sub [] rfl) rfl hl.1 rfl (Nat.le_of_ble_eq_true rfl) dX8_stuff_33 ⟨Nat.zero_le _, Nat.zero_le _⟩ ?_
      refine lv_if_eq (tgt := 50) hx hb dX8_stuff_36 (by decide) (fun c21 => ?_) (fun c21 => ?_)
      · have hf := g_pos c21 hf
        refine lv_bipush (v := (-2 : Int32)) hx hb dX8_stuff_50 (by decide +kernel) ?_
        rw [hQ]
        cases hf
        exact W.iret hx hb hr (fun t ht hW => ⟨⟨_, (), rfl, rfl, by rw [ht]; exact hP, va_K.moved hW.alike hK, hD⟩, hS.F ht⟩) hS.2.2 dX8_stuff_52
      · have hf := g_neg c21 hf
        refine lv_iload hx hb dX8_stuff_39 (lv_at hl 4 rfl) ?_
        refine lv_i2l hx hb dX8_stuff_41 rfl ?_
        refine lv_lconst (v := (0 : Int64)) hx hb dX8_stuff_42 (by decide) ?_
        refine lv_lconst (v := (1 : Int64)) hx hb dX8_stuff_43 (by decide) ?_
        obtain ⟨r22, hc23, hf⟩ := g_b1 hf
        refine g_rS (As := [.long a4.toInt64, .long (0 : Int64), .long (1 : Int64)]) (rest := []) ⟨hx, hb, hml, hown, hts⟩ (c_X8_in l dC dI cI cZ cG    a4.toInt64 (0 : Int64) (1 : Int64) hc23) (va_cwS 3 hts gX8_stuff_X8_in rfl rfl rfl (by decide +kernel) ⟨Nat.le_of_ble_eq_true rfl, Nat.le_of_ble_eq_true rfl⟩) hK hN (hP.sub [] rfl) rfl hl.1 rfl (Nat.le_of_ble_eq_true rfl) dX8_stuff_44 ⟨Nat.zero_le _, Nat.zero_le _⟩ ?_
        refine lv_if_ne (tgt := 53) hx hb dX8_stuff_47 (by decide) (fun c24 => ?_) (fun c24 => ?_)
        · have hf := g_neg c24 hf
          refine lv_aload_n hx hb dX8_stuff_53 rfl (lv_at hl 0 rfl) ?_
          refine va_get (D := (dC, dI)) (ci := 8) (v := .ref o_page) (C := RX8) (T := TX8) (N := 33) hx hb hts hiX8 hown hK hP 0 rfl rfl 10 (by decide) (hts (.fieldLink RX8 22 "GreenJarsModel" "page" "[I") (by decide +kernel)) (fun _ h9 => h9) rfl dX8_stuff_54 ?_
          refine lv_iload_n hx hb dX8_stuff_57 rfl (lv_at hl 1 rfl) ?_
          obtain ⟨r25, hc26, hf⟩ := g_b1 hf
          refine g_rS (As := [.ref o_page, .int a1]) (rest := []) ⟨hx, hb, hml, hown, hts⟩ (c_X8_isWhole l dC dI cI cZ cG o_page  f_page a1 hc26) (va_cwS 2 hts gX8_stuff_X8_isWhole rfl rfl rfl (by decide +kernel) ⟨Nat.le_of_ble_eq_true rfl, Nat.le_of_ble_eq_true rfl⟩) hK hN (hP.sub [2] rfl) rfl hl.1 rfl (Nat.le_of_ble_eq_true rfl) dX8_stuff_58 ⟨Nat.zero_le _, Nat.zero_le _⟩ ?_
          refine lv_if_ne (tgt := 67) hx hb dX8_stuff_61 (by decide) (fun c27 => ?_) (fun c27 => ?_)
          · have hf := g_neg c27 hf
            refine lv_aload_n hx hb dX8_stuff_67 rfl (lv_at hl 0 rfl) ?_
            refine lv_bipush (v := (-9 : Int32)) hx hb dX8_stuff_68 (by decide +kernel) ?_
            refine va_put (D := (dC, dI)) (ci := 8) (v := .int (-9 : Int32)) (ty := .int) (C := RX8) (T := TX8) (N := 33) hx hb hts hiX8 tyX8 tyX8_ok nmX8 hown hK hP hD hS 0 rfl rfl 25 (by decide) (hts (.fieldLink RX8 181 "GreenJarsModel" "stuffWhich" "I") (by decide +kernel)) (fun _ h9 => h9) rfl (by decide +kernel) rfl rfl (Nat.le_of_ble_eq_true rfl) dX8_stuff_70 (fun H locs hP hD hS => ?_)
            have hP : va_P (dC, dI) vwCl (w_X8_stuff cI cZ cG o o_text o_kind o_size o_readJar o_page o_trial o_book o_kept o_isKept o_tastedFrom o_tastedTo o_order o_spots o_gains o_value (0 : Int32) v_textSize v_place v_jars v_readPlaces v_readJars v_acts v_tasted v_seed v_some v_rowMany v_rowWay (-9 : Int32) v_stuffNear v_keptMany v_keptFirst v_restMany v_restFirst f_kind f_page f_trial) H := hP
            have hD : va_D A (w_X8_stuff cI cZ cG o o_text o_kind o_size o_readJar o_page o_trial o_book o_kept o_isKept o_tastedFrom o_tastedTo o_order o_spots o_gains o_value (0 : Int32) v_textSize v_place v_jars v_readPlaces v_readJars v_acts v_tasted v_seed v_some v_rowMany v_rowWay (-9 : Int32) v_stuffNear v_keptMany v_keptFirst v_restMany v_restFirst f_kind f_page f_trial) := hD
            refine lv_aload_n hx hb dX8_stuff_73 rfl (lv_at hl 0 rfl) ?_
            refine lv_bipush (v := (99 : Int32)) hx hb dX8_stuff_74 (by decide +kernel) ?_
            refine va_put (D := (dC, dI)) (ci := 8) (v := .int (99 : Int32)) (ty := .int) (C := RX8) (T := TX8) (N := 33) hx hb hts hiX8 tyX8 tyX8_ok nmX8 hown hK hP hD hS 0 rfl rfl 26 (by decide) (hts (.fieldLink RX8 184 "GreenJarsModel" "stuffNear" "I") (by decide +kernel)) (fun _ h9 => h9) rfl (by decide +kernel) rfl rfl (Nat.le_of_ble_eq_true rfl) dX8_stuff_76 (fun H locs hP hD hS => ?_)
            have hP : va_P (dC, dI) vwCl (w_X8_stuff cI cZ cG o o_text o_kind o_size o_readJar o_page o_trial o_book o_kept o_isKept o_tastedFrom o_tastedTo o_order o_spots o_gains o_value (0 : Int32) v_textSize v_place v_jars v_readPlaces v_readJars v_acts v_tasted v_seed v_some v_rowMany v_rowWay (-9 : Int32) (99 : Int32) v_keptMany v_keptFirst v_restMany v_restFirst f_kind f_page f_trial) H := hP
            have hD : va_D A (w_X8_stuff cI cZ cG o o_text o_kind o_size o_readJar o_page o_trial o_book o_kept o_isKept o_tastedFrom o_tastedTo o_order o_spots o_gains o_value (0 : Int32) v_textSize v_place v_jars v_readPlaces v_readJars v_acts v_tasted v_seed v_some v_rowMany v_rowWay (-9 : Int32) (99 : Int32) v_keptMany v_keptFirst v_restMany v_restFirst f_kind f_page f_trial) := hD
            refine lv_iconst (v := (0 : Int32)) hx hb dX8_stuff_79 (by decide) ?_
            refine lv_istore (lv' := [(5, .int (0 : Int32)), (0, .ref o), (1, .int a1), (2, .int a2), (3, .int a3), (4, .int a4)]) hx hb dX8_stuff_80 hl (by decide) rfl (fun ls hl => ?_)
            exact L82 N (0 : Int32) (0 : Int32) v_some (-9 : Int32) (99 : Int32) f_trial H locs ls hf (lv_sub hl [1, 2, 3, 4, 5, 0] rfl) hP hD hS
          · have hf := g_pos c27 hf
            refine lv_bipush (v := (-3 : Int32)) hx hb dX8_stuff_64 (by decide +kernel) ?_
            rw [hQ]
            cases hf
            exact W.iret hx hb hr (fun t ht hW => ⟨⟨_, (), rfl, rfl, by rw [ht]; exact hP, va_K.moved hW.alike hK, hD⟩, hS.F ht⟩) hS.2.2 dX8_stuff_66
        · have hf := g_pos c24 hf
          refine lv_bipush (v := (-2 : Int32)) hx hb dX8_stuff_50 (by decide +kernel) ?_
          rw [hQ]
          cases hf
          exact W.iret hx hb hr (fun t ht hW => ⟨⟨_, (), rfl, rfl, by rw [ht]; exact hP, va_K.moved hW.alike hK, hD⟩, hS.F ht⟩) hS.2.2 dX8_stuff_52
  · have hf := g_neg c15 hf
    refine lv_iconst (v := (-1 : Int32)) hx hb dX8_stuff_13 (by decide) ?_
    rw [hQ]
    cases hf
    exact W.iret hx hb hr (fun t ht hW => ⟨⟨_, (), rfl, rfl, by rw [ht]; exact hP, va_K.moved hW.alike hK, hD⟩, hS.F ht⟩) hS.2.2 dX8_stuff_14
abbrev rm_X8_nextOrder : Room := { frames := 0, cells := 0, slots := 0, locals := 0 }
abbrev w_X8_nextOrder (cI cZ cG : ClassId) (o : Nat) (o_text : Nat) (o_kind : Nat) (o_size : Nat) (o_readJar : Nat) (o_page : Nat) (o_trial : Nat) (o_book : Nat) (o_kept : Nat) (o_isKept : Nat) (o_tastedFrom : Nat) (o_tastedTo : Nat) (o_order : Nat) (o_spots : Nat) (o_gains : Nat) (o_value : Nat) (v_thrown : Int32) (v_textSize : Int32) (v_place : Int32) (v_jars : Int32) (v_readPlaces : Int32) (v_readJars : Int32) (v_acts : Int32) (v_tasted : Int32) (v_seed : Int64) (v_some : Int32) (v_rowMany : Int32) (v_rowWay : Int32) (v_stuffWhich : Int32) (v_stuffNear : Int32) (v_keptMany : Int32) (v_keptFirst : Int32) (v_restMany : Int32) (v_restFirst : Int32) (f_order : Nat → Int32) : va_W := [(o, .inr (8, [.int v_thrown, .ref o_text, .int v_textSize, .int v_place, .int v_jars, .ref o_kind, .ref o_size, .int v_readPlaces, .int v_readJars, .ref o_readJar, .ref o_page, .ref o_trial, .ref o_book, .int v_acts, .ref o_kept, .ref o_isKept, .int v_tasted, .ref o_tastedFrom, .ref o_tastedTo, .long v_seed, .int v_some, .ref o_order, .ref o_spots, .int v_rowMany, .int v_rowWay, .int v_stuffWhich, .int v_stuffNear, .int v_keptMany, .int v_keptFirst, .int v_restMany, .int v_restFirst, .ref o_gains, .ref o_value])), (o_order, .inl (cI, 6, .inl f_order))]
set_option maxHeartbeats 4000000 in
set_option maxRecDepth 100000 in
theorem c_X8_nextOrder (l : Launch) (dC : Nat → ClassId) (dI : Nat → Nat → Nat) (cI cZ cG : ClassId) {N : Nat} (o : Nat) (o_text : Nat) (o_kind : Nat) (o_size : Nat) (o_readJar : Nat) (o_page : Nat) (o_trial : Nat) (o_book : Nat) (o_kept : Nat) (o_isKept : Nat) (o_tastedFrom : Nat) (o_tastedTo : Nat) (o_order : Nat) (o_spots : Nat) (o_gains : Nat) (o_value : Nat) (sz : Nat) (v_thrown : Int32) (v_textSize : Int32) (v_place : Int32) (v_jars : Int32) (v_readPlaces : Int32) (v_readJars : Int32) (v_acts : Int32) (v_tasted : Int32) (v_seed : Int64) (v_some : Int32) (v_rowMany : Int32) (v_rowWay : Int32) (v_stuffWhich : Int32) (v_stuffNear : Int32) (v_keptMany : Int32) (v_keptFirst : Int32) (v_restMany : Int32) (v_restFirst : Int32) (f_order : Nat → Int32) (a1 : Int32) {r0 : Int32} {n_order : Nat → Int32} (hf : x8_nextOrder N f_order a1 = some (r0, n_order)) : Met l yX8_nextOrder wsX8_nextOrder rm_X8_nextOrder (va_Pc [.ref o, .int a1] (gW (dC, dI) vwCl (gT cI cZ cG) (w_X8_nextOrder cI cZ cG o o_text o_kind o_size o_readJar o_page o_trial o_book o_kept o_isKept o_tastedFrom o_tastedTo o_order o_spots o_gains o_value v_thrown v_textSize v_place v_jars v_readPlaces v_readJars v_acts v_tasted v_seed v_some v_rowMany v_rowWay v_stuffWhich v_stuffNear v_keptMany v_keptFirst v_restMany v_restFirst f_order) sz)) (va_Qi (fun r _ => r = r0) (gE (dC, dI) vwCl (gT cI cZ cG) (w_X8_nextOrder cI cZ cG o o_text o_kind o_size o_readJar o_page o_trial o_book o_kept o_isKept o_tastedFrom o_tastedTo o_order o_spots o_gains o_value v_thrown v_textSize v_place v_jars v_readPlaces v_readJars v_acts v_tasted v_seed v_some v_rowMany v_rowWay v_stuffWhich v_stuffNear v_keptMany v_keptFirst v_restMany v_restFirst n_order) (va_A (w_X8_nextOrder cI cZ cG o o_text o_kind o_size o_readJar o_page o_trial o_book o_kept o_isKept o_tastedFrom o_tastedTo o_order o_spots o_gains o_value v_thrown v_textSize v_place v_jars v_readPlaces v_readJars v_acts v_tasted v_seed v_some v_rowMany v_rowWay v_stuffWhich v_stuffNear v_keptMany v_keptFirst v_restMany v_restFirst f_order) sz)) (va_A (w_X8_nextOrder cI cZ cG o o_text o_kind o_size o_readJar o_page o_trial o_book o_kept o_isKept o_tastedFrom o_tastedTo o_order o_spots o_gains o_value v_thrown v_textSize v_place v_jars v_readPlaces v_readJars v_acts v_tasted v_seed v_some v_rowMany v_rowWay v_stuffWhich v_stuffNear v_keptMany v_keptFirst v_restMany v_restFirst f_order) sz)) 0 0 (va_A (w_X8_nextOrder cI cZ cG o o_text o_kind o_size o_readJar o_page o_trial o_book o_kept o_isKept o_tastedFrom o_tastedTo o_order o_spots o_gains o_value v_thrown v_textSize v_place v_jars v_readPlaces v_readJars v_acts v_tasted v_seed v_some v_rowMany v_rowWay v_stuffWhich v_stuffNear v_keptMany v_keptFirst v_restMany v_restFirst f_order) sz) := by
  refine Met.ofW (cc := cX8_nextOrder) (maxL := 7) (ret := (some .boolean)) (by decide) rfl ?_
  intro p e s m args below meth c s₁ B hml hv
  obtain ⟨rfl, hv⟩ := hv
  obtain ⟨hsz, hP, hK, hN, hD0⟩ := hv
  have hx := B.exec
  have hb := B.bytes
  have hr := B.returns
  have hts := atoms_spec (ws := wsX8_nextOrder) B.pre
  have hown : s.vm.findClass RX8 = some m.cls := findClass_of_methodNamed B.named
  have hlocks := B.notSynchronized
  have hiX8 : ∀ w ∈ u_ws RX8 TX8 33, w ∈ wsX8_nextOrder := fun w h => List.mem_cons_of_mem _ (List.mem_append_right _ h)
  subst hsz
  have hD := hD0.self (sz := s.heap.size)
  generalize hAe : va_A (w_X8_nextOrder cI cZ cG o o_text o_kind o_size o_readJar o_page o_trial o_book o_kept o_isKept o_tastedFrom o_tastedTo o_order o_spots o_gains o_value v_thrown v_textSize v_place v_jars v_readPlaces v_readJars v_acts v_tasted v_seed v_some v_rowMany v_rowWay v_stuffWhich v_stuffNear v_keptMany v_keptFirst v_restMany v_restFirst f_order) s.heap.size = A at hD ⊢
  have hA : ∀ q : Nat, s.heap.size ≤ q → A q := fun q h => by rw [← hAe]; exact Or.inr h
  clear hD0
  have hS : va_S A s.heap s.heap [] := va_S.rf
  have hP : va_P (dC, dI) vwCl (w_X8_nextOrder cI cZ cG o o_text o_kind o_size o_readJar o_page o_trial o_book o_kept o_isKept o_tastedFrom o_tastedTo o_order o_spots o_gains o_value v_thrown v_textSize v_place v_jars v_readPlaces v_readJars v_acts v_tasted v_seed v_some v_rowMany v_rowWay v_stuffWhich v_stuffNear v_keptMany v_keptFirst v_restMany v_restFirst f_order) s.heap := hP
  obtain ⟨Q, hQ⟩ : ∃ Q : State → Prop, Q = MQ below (va_Qi (fun r _ => r = r0) (gE (dC, dI) vwCl (gT cI cZ cG) (w_X8_nextOrder cI cZ cG o o_text o_kind o_size o_readJar o_page o_trial o_book o_kept o_isKept o_tastedFrom o_tastedTo o_order o_spots o_gains o_value v_thrown v_textSize v_place v_jars v_readPlaces v_readJars v_acts v_tasted v_seed v_some v_rowMany v_rowWay v_stuffWhich v_stuffNear v_keptMany v_keptFirst v_restMany v_restFirst n_order) A) A) (([Value.ref o, Value.int a1] : List Value).toArray) s 0 0 A := ⟨_, rfl⟩
  have hl := lv_entry ([.ref o, .int a1]) (n := 7) (Nat.le_of_ble_eq_true rfl)
  rw [← hQ, lg_entry_eq]
  generalize (lg_sl ([.ref o, .int a1]) ++ List.replicate (7 - (lg_sl ([.ref o, .int a1])).length) Slot.unset).toArray = ls at hl ⊢
  have hl : lv_has ls 7 [(0, .ref o), (1, .int a1)] := hl
  generalize hH : s.heap = H at hP hS ⊢
  have hS : va_S A s.heap H [] := by rw [hH]; exact hS
  generalize hlc : ([] : List Loc) = locs at hS ⊢
  show W p l e rm_X8_nextOrder s m (([Value.ref o, Value.int a1] : List Value).toArray) below meth c H locs 0 0 Q (F0 m 0 ls [])
  have L100 : ∀ (n100 : Nat), ∀ (x5 : Int32) (x6 : Int32) (y_order : Nat → Int32) (H : Heap) (locs : List Loc) (ls : Array Slot), x8_nextOrder_b100 N a1 n100 x5 x6 y_order = some (r0, n_order) → lv_has ls 7 [(0, .ref o), (5, .int x5), (6, .int x6)] → va_P (dC, dI) vwCl (w_X8_nextOrder cI cZ cG o o_text o_kind o_size o_readJar o_page o_trial o_book o_kept o_isKept o_tastedFrom o_tastedTo o_order o_spots o_gains o_value v_thrown v_textSize v_place v_jars v_readPlaces v_readJars v_acts v_tasted v_seed v_some v_rowMany v_rowWay v_stuffWhich v_stuffNear v_keptMany v_keptFirst v_restMany v_restFirst y_order) H → va_D A (w_X8_nextOrder cI cZ cG o o_text o_kind o_size o_readJar o_page o_trial o_book o_kept o_isKept o_tastedFrom o_tastedTo o_order o_spots o_gains o_value v_thrown v_textSize v_place v_jars v_readPlaces v_readJars v_acts v_tasted v_seed v_some v_rowMany v_rowWay v_stuffWhich v_stuffNear v_keptMany v_keptFirst v_restMany v_restFirst y_order) → va_S A s.heap H locs → W p l e rm_X8_nextOrder s m (([Value.ref o, Value.int a1] : List Value).toArray) below meth c H locs 0 0 Q (F0 m 100 ls []) := by
    intro n100
    induction n100 with
    | zero =>
      intro x5 x6 y_order H locs ls hf hl hP hD hS
      exact g_no hf
    | succ n100 ih100 =>
      intro x5 x6 y_order H locs ls hf hl hP hD hS
      unfold x8_nextOrder_b100 at hf
      refine lv_iload hx hb dX8_nextOrder_100 (lv_at hl 1 rfl) ?_
      refine lv_iload hx hb dX8_nextOrder_102 (lv_at hl 2 rfl) ?_
      refine lv_icmp_ge (tgt := 148) hx hb dX8_nextOrder_104 (by decide) (fun c1 => ?_) (fun c1 => ?_)
      · have hf := g_pos c1 hf
        refine lv_iconst (v := (1 : Int32)) hx hb dX8_nextOrder_148 (by decide) ?_
        rw [hQ]
        cases hf
        exact W.zret hx hb hr (by decide +kernel) (fun t ht hW => ⟨⟨_, (), rfl, rfl, by rw [ht]; exact hP, va_K.moved hW.alike hK, hD⟩, hS.F ht⟩) hS.2.2 dX8_nextOrder_149
      · have hf := g_neg c1 hf
        refine lv_aload_n hx hb dX8_nextOrder_107 rfl (lv_at hl 0 rfl) ?_
        refine va_get (D := (dC, dI)) (ci := 8) (v := .ref o_order) (C := RX8) (T := TX8) (N := 33) hx hb hts hiX8 hown hK hP 0 rfl rfl 21 (by decide) (hts (.fieldLink RX8 44 "GreenJarsModel" "order" "[I") (by decide +kernel)) (fun _ h9 => h9) rfl dX8_nextOrder_108 ?_
        refine lv_iload hx hb dX8_nextOrder_111 (lv_at hl 1 rfl) ?_
        obtain ⟨h2, hf⟩ := g_chk hf
        refine va_iald hx hb hK hP 1 0 rfl rfl (gIn_vp h2) dX8_nextOrder_113 ?_
        refine lv_istore (lv' := [(4, .int (y_order x5.toNatClampNeg)), (0, .ref o), (5, .int x5), (6, .int x6)]) hx hb dX8_nextOrder_114 hl (by decide) rfl (fun ls hl => ?_)
        refine lv_aload_n hx hb dX8_nextOrder_116 rfl (lv_at hl 1 rfl) ?_
        refine va_get (D := (dC, dI)) (ci := 8) (v := .ref o_order) (C := RX8) (T := TX8) (N := 33) hx hb hts hiX8 hown hK hP 0 rfl rfl 21 (by decide) (hts (.fieldLink RX8 44 "GreenJarsModel" "order" "[I") (by decide +kernel)) (fun _ h9 => h9) rfl dX8_nextOrder_117 ?_
        refine lv_iload hx hb dX8_nextOrder_120 (lv_at hl 2 rfl) ?_
        refine lv_aload_n hx hb dX8_nextOrder_122 rfl (lv_at hl 1 rfl) ?_
        refine va_get (D := (dC, dI)) (ci := 8) (v := .ref o_order) (C := RX8) (T := TX8) (N := 33) hx hb hts hiX8 hown hK hP 0 rfl rfl 21 (by decide) (hts (.fieldLink RX8 44 "GreenJarsModel" "order" "[I") (by decide +kernel)) (fun _ h9 => h9) rfl dX8_nextOrder_123 ?_
        refine lv_iload hx hb dX8_nextOrder_126 (lv_at hl 3 rfl) ?_
        obtain ⟨h3, hf⟩ := g_chk hf
        refine va_iald hx hb hK hP 1 0 rfl rfl (gIn_vp h3) dX8_nextOrder_128 ?_
        obtain ⟨h4, hf⟩ := g_chk hf
        refine va_iast hx hb hK hP hD hS 1 0 rfl rfl (gIn_vp h4) dX8_nextOrder_129 (fun H locs hP hD hS => ?_)
        have hP : va_P (dC, dI) vwCl (w_X8_nextOrder cI cZ cG o o_text o_kind o_size o_readJar o_page o_trial o_book o_kept o_isKept o_tastedFrom o_tastedTo o_order o_spots o_gains o_value v_thrown v_textSize v_place v_jars v_readPlaces v_readJars v_acts v_tasted v_seed v_some v_rowMany v_rowWay v_stuffWhich v_stuffNear v_keptMany v_keptFirst v_restMany v_restFirst (upd y_order x5.toNatClampNeg (y_order x6.toNatClampNeg))) H := hP
        have hD : va_D A (w_X8_nextOrder cI cZ cG o o_text o_kind o_size o_readJar o_page o_trial o_book o_kept o_isKept o_tastedFrom o_tastedTo o_order o_spots o_gains o_value v_thrown v_textSize v_place v_jars v_readPlaces v_readJars v_acts v_tasted v_seed v_some v_rowMany v_rowWay v_stuffWhich v_stuffNear v_keptMany v_keptFirst v_restMany v_restFirst (upd y_order x5.toNatClampNeg (y_order x6.toNatClampNeg))) := hD
        refine lv_aload_n hx hb dX8_nextOrder_130 rfl (lv_at hl 1 rfl) ?_
        refine va_get (D := (dC, dI)) (ci := 8) (v := .ref o_order) (C := RX8) (T := TX8) (N := 33) hx hb hts hiX8 hown hK hP 0 rfl rfl 21 (by decide) (hts (.fieldLink RX8 44 "GreenJarsModel" "order" "[I") (by decide +kernel)) (fun _ h9 => h9) rfl dX8_nextOrder_131 ?_
        refine lv_iload hx hb dX8_nextOrder_134 (lv_at hl 3 rfl) ?_
        refine lv_iload hx hb dX8_nextOrder_136 (lv_at hl 0 rfl) ?_
        obtain ⟨h5, hf⟩ := g_chk hf
        refine va_iast hx hb hK hP hD hS 1 0 rfl rfl (gIn_vp h5) dX8_nextOrder_138 (fun H locs hP hD hS => ?_)
        have hP : va_P (dC, dI) vwCl (w_X8_nextOrder cI cZ cG o o_text o_kind o_size o_readJar o_page o_trial o_book o_kept o_isKept o_tastedFrom o_tastedTo o_order o_spots o_gains o_value v_thrown v_textSize v_place v_jars v_readPlaces v_readJars v_acts v_tasted v_seed v_some v_rowMany v_rowWay v_stuffWhich v_stuffNear v_keptMany v_keptFirst v_restMany v_restFirst (upd (upd y_order x5.toNatClampNeg (y_order x6.toNatClampNeg)) x6.toNatClampNeg (y_order x5.toNatClampNeg))) H := hP
        have hD : va_D A (w_X8_nextOrder cI cZ cG o o_text o_kind o_size o_readJar o_page o_trial o_book o_kept o_isKept o_tastedFrom o_tastedTo o_order o_spots o_gains o_value v_thrown v_textSize v_place v_jars v_readPlaces v_readJars v_acts v_tasted v_seed v_some v_rowMany v_rowWay v_stuffWhich v_stuffNear v_keptMany v_keptFirst v_restMany v_restFirst (upd (upd y_order x5.toNatClampNeg (y_order x6.toNatClampNeg)) x6.toNatClampNeg (y_order x5.toNatClampNeg))) := hD
        refine lv_iinc (v := (x5 + (1 : Int32))) (lv' := [(5, .int (x5 + (1 : Int32))), (4, .int (y_order x5.toNatClampNeg)), (0, .ref o), (6, .int x6)]) hx hb dX8_nextOrder_139 hl (k := 2) rfl rfl (by decide) rfl (fun ls hl => ?_)
        refine lv_iinc (v := (x6 + (-1 : Int32))) (lv' := [(6, .int (x6 + (-1 : Int32))), (5, .int (x5 + (1 : Int32))), (4, .int (y_order x5.toNatClampNeg)), (0, .ref o)]) hx hb dX8_nextOrder_142 hl (k := 3) rfl rfl (by decide) rfl (fun ls hl => ?_)
        refine lv_goto (tgt := 100) hx hb dX8_nextOrder_145 (by decide) ?_
        exact ih100 (x5 + (1 : Int32)) (x6 + (-1 : Int32)) (upd (upd y_order x5.toNatClampNeg (y_order x6.toNatClampNeg)) x6.toNatClampNeg (y_order x5.toNatClampNeg)) H locs ls hf (lv_sub hl [3, 1, 0] rfl) hP hD hS
  have L41 : ∀ (n41 : Nat), ∀ (x2 : Int32) (x3 : Int32) (y_order : Nat → Int32) (H : Heap) (locs : List Loc) (ls : Array Slot), x8_nextOrder_b41 N a1 n41 x2 x3 y_order = some (r0, n_order) → lv_has ls 7 [(0, .ref o), (1, .int a1), (2, .int x2), (3, .int x3)] → va_P (dC, dI) vwCl (w_X8_nextOrder cI cZ cG o o_text o_kind o_size o_readJar o_page o_trial o_book o_kept o_isKept o_tastedFrom o_tastedTo o_order o_spots o_gains o_value v_thrown v_textSize v_place v_jars v_readPlaces v_readJars v_acts v_tasted v_seed v_some v_rowMany v_rowWay v_stuffWhich v_stuffNear v_keptMany v_keptFirst v_restMany v_restFirst y_order) H → va_D A (w_X8_nextOrder cI cZ cG o o_text o_kind o_size o_readJar o_page o_trial o_book o_kept o_isKept o_tastedFrom o_tastedTo o_order o_spots o_gains o_value v_thrown v_textSize v_place v_jars v_readPlaces v_readJars v_acts v_tasted v_seed v_some v_rowMany v_rowWay v_stuffWhich v_stuffNear v_keptMany v_keptFirst v_restMany v_restFirst y_order) → va_S A s.heap H locs → W p l e rm_X8_nextOrder s m (([Value.ref o, Value.int a1] : List Value).toArray) below meth c H locs 0 0 Q (F0 m 41 ls []) := by
    intro n41
    induction n41 with
    | zero =>
      intro x2 x3 y_order H locs ls hf hl hP hD hS
      exact g_no hf
    | succ n41 ih41 =>
      intro x2 x3 y_order H locs ls hf hl hP hD hS
      unfold x8_nextOrder_b41 at hf
      refine lv_aload_n hx hb dX8_nextOrder_41 rfl (lv_at hl 0 rfl) ?_
      refine va_get (D := (dC, dI)) (ci := 8) (v := .ref o_order) (C := RX8) (T := TX8) (N := 33) hx hb hts hiX8 hown hK hP 0 rfl rfl 21 (by decide) (hts (.fieldLink RX8 44 "GreenJarsModel" "order" "[I") (by decide +kernel)) (fun _ h9 => h9) rfl dX8_nextOrder_42 ?_
      refine lv_iload_n hx hb dX8_nextOrder_45 rfl (lv_at hl 3 rfl) ?_
      obtain ⟨h6, hf⟩ := g_chk hf
      refine va_iald hx hb hK hP 1 0 rfl rfl (gIn_vp h6) dX8_nextOrder_46 ?_
      refine lv_aload_n hx hb dX8_nextOrder_47 rfl (lv_at hl 0 rfl) ?_
      refine va_get (D := (dC, dI)) (ci := 8) (v := .ref o_order) (C := RX8) (T := TX8) (N := 33) hx hb hts hiX8 hown hK hP 0 rfl rfl 21 (by decide) (hts (.fieldLink RX8 44 "GreenJarsModel" "order" "[I") (by decide +kernel)) (fun _ h9 => h9) rfl dX8_nextOrder_48 ?_
      refine lv_iload_n hx hb dX8_nextOrder_51 rfl (lv_at hl 2 rfl) ?_
      obtain ⟨h7, hf⟩ := g_chk hf
      refine va_iald hx hb hK hP 1 0 rfl rfl (gIn_vp h7) dX8_nextOrder_52 ?_
      refine lv_icmp_ge (tgt := 62) hx hb dX8_nextOrder_53 (by decide) (fun c8 => ?_) (fun c8 => ?_)
      · have hf := g_pos c8 hf
        refine lv_aload_n hx hb dX8_nextOrder_62 rfl (lv_at hl 0 rfl) ?_
        refine va_get (D := (dC, dI)) (ci := 8) (v := .ref o_order) (C := RX8) (T := TX8) (N := 33) hx hb hts hiX8 hown hK hP 0 rfl rfl 21 (by decide) (hts (.fieldLink RX8 44 "GreenJarsModel" "order" "[I") (by decide +kernel)) (fun _ h9 => h9) rfl dX8_nextOrder_63 ?_
        refine lv_iload_n hx hb dX8_nextOrder_66 rfl (lv_at hl 2 rfl) ?_
        obtain ⟨h9, hf⟩ := g_chk hf
        refine va_iald hx hb hK hP 1 0 rfl rfl (gIn_vp h9) dX8_nextOrder_67 ?_
        refine lv_istore (lv' := [(4, .int (y_order x2.toNatClampNeg)), (0, .ref o), (1, .int a1), (2, .int x2), (3, .int x3)]) hx hb dX8_nextOrder_68 hl (by decide) rfl (fun ls hl => ?_)
        refine lv_aload_n hx hb dX8_nextOrder_70 rfl (lv_at hl 1 rfl) ?_
        refine va_get (D := (dC, dI)) (ci := 8) (v := .ref o_order) (C := RX8) (T := TX8) (N := 33) hx hb hts hiX8 hown hK hP 0 rfl rfl 21 (by decide) (hts (.fieldLink RX8 44 "GreenJarsModel" "order" "[I") (by decide +kernel)) (fun _ h9 => h9) rfl dX8_nextOrder_71 ?_
        refine lv_iload_n hx hb dX8_nextOrder_74 rfl (lv_at hl 3 rfl) ?_
        refine lv_aload_n hx hb dX8_nextOrder_75 rfl (lv_at hl 1 rfl) ?_
        refine va_get (D := (dC, dI)) (ci := 8) (v := .ref o_order) (C := RX8) (T := TX8) (N := 33) hx hb hts hiX8 hown hK hP 0 rfl rfl 21 (by decide) (hts (.fieldLink RX8 44 "GreenJarsModel" "order" "[I") (by decide +kernel)) (fun _ h9 => h9) rfl dX8_nextOrder_76 ?_
        refine lv_iload_n hx hb dX8_nextOrder_79 rfl (lv_at hl 4 rfl) ?_
        obtain ⟨h10, hf⟩ := g_chk hf
        refine va_iald hx hb hK hP 1 0 rfl rfl (gIn_vp h10) dX8_nextOrder_80 ?_
        obtain ⟨h11, hf⟩ := g_chk hf
        refine va_iast hx hb hK hP hD hS 1 0 rfl rfl (gIn_vp h11) dX8_nextOrder_81 (fun H locs hP hD hS => ?_)
        have hP : va_P (dC, dI) vwCl (w_X8_nextOrder cI cZ cG o o_text o_kind o_size o_readJar o_page o_trial o_book o_kept o_isKept o_tastedFrom o_tastedTo o_order o_spots o_gains o_value v_thrown v_textSize v_place v_jars v_readPlaces v_readJars v_acts v_tasted v_seed v_some v_rowMany v_rowWay v_stuffWhich v_stuffNear v_keptMany v_keptFirst v_restMany v_restFirst (upd y_order x2.toNatClampNeg (y_order x3.toNatClampNeg))) H := hP
        have hD : va_D A (w_X8_nextOrder cI cZ cG o o_text o_kind o_size o_readJar o_page o_trial o_book o_kept o_isKept o_tastedFrom o_tastedTo o_order o_spots o_gains o_value v_thrown v_textSize v_place v_jars v_readPlaces v_readJars v_acts v_tasted v_seed v_some v_rowMany v_rowWay v_stuffWhich v_stuffNear v_keptMany v_keptFirst v_restMany v_restFirst (upd y_order x2.toNatClampNeg (y_order x3.toNatClampNeg))) := hD
        refine lv_aload_n hx hb dX8_nextOrder_82 rfl (lv_at hl 1 rfl) ?_
        refine va_get (D := (dC, dI)) (ci := 8) (v := .ref o_order) (C := RX8) (T := TX8) (N := 33) hx hb hts hiX8 hown hK hP 0 rfl rfl 21 (by decide) (hts (.fieldLink RX8 44 "GreenJarsModel" "order" "[I") (by decide +kernel)) (fun _ h9 => h9) rfl dX8_nextOrder_83 ?_
        refine lv_iload_n hx hb dX8_nextOrder_86 rfl (lv_at hl 4 rfl) ?_
        refine lv_iload hx hb dX8_nextOrder_87 (lv_at hl 0 rfl) ?_
        obtain ⟨h12, hf⟩ := g_chk hf
        refine va_iast hx hb hK hP hD hS 1 0 rfl rfl (gIn_vp h12) dX8_nextOrder_89 (fun H locs hP hD hS => ?_)
        have hP : va_P (dC, dI) vwCl (w_X8_nextOrder cI cZ cG o o_text o_kind o_size o_readJar o_page o_trial o_book o_kept o_isKept o_tastedFrom o_tastedTo o_order o_spots o_gains o_value v_thrown v_textSize v_place v_jars v_readPlaces v_readJars v_acts v_tasted v_seed v_some v_rowMany v_rowWay v_stuffWhich v_stuffNear v_keptMany v_keptFirst v_restMany v_restFirst (upd (upd y_order x2.toNatClampNeg (y_order x3.toNatClampNeg)) x3.toNatClampNeg (y_order x2.toNatClampNeg))) H := hP
        have hD : va_D A (w_X8_nextOrder cI cZ cG o o_text o_kind o_size o_readJar o_page o_trial o_book o_kept o_isKept o_tastedFrom o_tastedTo o_order o_spots o_gains o_value v_thrown v_textSize v_place v_jars v_readPlaces v_readJars v_acts v_tasted v_seed v_some v_rowMany v_rowWay v_stuffWhich v_stuffNear v_keptMany v_keptFirst v_restMany v_restFirst (upd (upd y_order x2.toNatClampNeg (y_order x3.toNatClampNeg)) x3.toNatClampNeg (y_order x2.toNatClampNeg))) := hD
        refine lv_iload_n hx hb dX8_nextOrder_90 rfl (lv_at hl 3 rfl) ?_
        refine lv_iconst (v := (1 : Int32)) hx hb dX8_nextOrder_91 (by decide) ?_
        refine lv_iadd hx hb dX8_nextOrder_92 ?_
        refine lv_istore (lv' := [(5, .int (x2 + (1 : Int32))), (4, .int (y_order x2.toNatClampNeg)), (0, .ref o), (1, .int a1), (2, .int x2), (3, .int x3)]) hx hb dX8_nextOrder_93 hl (by decide) rfl (fun ls hl => ?_)
        refine lv_iload_n hx hb dX8_nextOrder_95 rfl (lv_at hl 3 rfl) ?_
        refine lv_iconst (v := (1 : Int32)) hx hb dX8_nextOrder_96 (by decide) ?_
        refine lv_isub hx hb dX8_nextOrder_97 ?_
        refine lv_istore (lv' := [(6, .int (a1 - (1 : Int32))), (5, .int (x2 + (1 : Int32))), (4, .int (y_order x2.toNatClampNeg)), (0, .ref o), (1, .int a1), (2, .int x2), (3, .int x3)]) hx hb dX8_nextOrder_98 hl (by decide) rfl (fun ls hl => ?_)
        exact L100 N (x2 + (1 : Int32)) (a1 - (1 : Int32)) (upd (upd y_order x2.toNatClampNeg (y_order x3.toNatClampNeg)) x3.toNatClampNeg (y_order x2.toNatClampNeg)) H locs ls hf (lv_sub hl [3, 1, 0] rfl) hP hD hS
      · have hf := g_neg c8 hf
        refine lv_iinc (v := (x3 + (-1 : Int32))) (lv' := [(3, .int (x3 + (-1 : Int32))), (0, .ref o), (1, .int a1), (2, .int x2)]) hx hb dX8_nextOrder_56 hl (k := 3) rfl rfl (by decide) rfl (fun ls hl => ?_)
        refine lv_goto (tgt := 41) hx hb dX8_nextOrder_59 (by decide) ?_
        exact ih41 x2 (x3 + (-1 : Int32)) y_order H locs ls hf (lv_sub hl [1, 2, 3, 0] rfl) hP hD hS
  have J31 : ∀ (x2 : Int32) (y_order : Nat → Int32) (H : Heap) (locs : List Loc) (ls : Array Slot), x8_nextOrder_b31 N a1 x2 y_order = some (r0, n_order) → lv_has ls 7 [(0, .ref o), (1, .int a1), (2, .int x2)] → va_P (dC, dI) vwCl (w_X8_nextOrder cI cZ cG o o_text o_kind o_size o_readJar o_page o_trial o_book o_kept o_isKept o_tastedFrom o_tastedTo o_order o_spots o_gains o_value v_thrown v_textSize v_place v_jars v_readPlaces v_readJars v_acts v_tasted v_seed v_some v_rowMany v_rowWay v_stuffWhich v_stuffNear v_keptMany v_keptFirst v_restMany v_restFirst y_order) H → va_D A (w_X8_nextOrder cI cZ cG o o_text o_kind o_size o_readJar o_page o_trial o_book o_kept o_isKept o_tastedFrom o_tastedTo o_order o_spots o_gains o_value v_thrown v_textSize v_place v_jars v_readPlaces v_readJars v_acts v_tasted v_seed v_some v_rowMany v_rowWay v_stuffWhich v_stuffNear v_keptMany v_keptFirst v_restMany v_restFirst y_order) → va_S A s.heap H locs → W p l e rm_X8_nextOrder s m (([Value.ref o, Value.int a1] : List Value).toArray) below meth c H locs 0 0 Q (F0 m 31 ls []) := by
    intro x2 y_order H locs ls hf hl hP hD hS
    unfold x8_nextOrder_b31 at hf
    refine lv_iload_n hx hb dX8_nextOrder_31 rfl (lv_at hl 2 rfl) ?_
    refine lv_if_ge (tgt := 37) hx hb dX8_nextOrder_32 (by decide) (fun c13 => ?_) (fun c13 => ?_)
    · have hf := g_pos c13 hf
      refine lv_iload_n hx hb dX8_nextOrder_37 rfl (lv_at hl 1 rfl) ?_
      refine lv_iconst (v := (1 : Int32)) hx hb dX8_nextOrder_38 (by decide) ?_
      refine lv_isub hx hb dX8_nextOrder_39 ?_
      refine lv_istore_n (lv' := [(3, .int (a1 - (1 : Int32))), (0, .ref o), (1, .int a1), (2, .int x2)]) hx hb dX8_nextOrder_40 rfl hl (by decide) rfl (fun ls hl => ?_)
      exact L41 N x2 (a1 - (1 : Int32)) y_order H locs ls hf (lv_sub hl [1, 2, 3, 0] rfl) hP hD hS
    · have hf := g_neg c13 hf
      refine lv_iconst (v := (0 : Int32)) hx hb dX8_nextOrder_35 (by decide) ?_
      rw [hQ]
      cases hf
      exact W.zret hx hb hr (by decide +kernel) (fun t ht hW => ⟨⟨_, (), rfl, rfl, by rw [ht]; exact hP, va_K.moved hW.alike hK, hD⟩, hS.F ht⟩) hS.2.2 dX8_nextOrder_36
  have L4 : ∀ (n4 : Nat), ∀ (x2 : Int32) (y_order : Nat → Int32) (H : Heap) (locs : List Loc) (ls : Array Slot), x8_nextOrder_b4 N a1 n4 x2 y_order = some (r0, n_order) → lv_has ls 7 [(0, .ref o), (1, .int a1), (2, .int x2)] → va_P (dC, dI) vwCl (w_X8_nextOrder cI cZ cG o o_text o_kind o_size o_readJar o_page o_trial o_book o_kept o_isKept o_tastedFrom o_tastedTo o_order o_spots o_gains o_value v_thrown v_textSize v_place v_jars v_readPlaces v_readJars v_acts v_tasted v_seed v_some v_rowMany v_rowWay v_stuffWhich v_stuffNear v_keptMany v_keptFirst v_restMany v_restFirst y_order) H → va_D A (w_X8_nextOrder cI cZ cG o o_text o_kind o_size o_readJar o_page o_trial o_book o_kept o_isKept o_tastedFrom o_tastedTo o_order o_spots o_gains o_value v_thrown v_textSize v_place v_jars v_readPlaces v_readJars v_acts v_tasted v_seed v_some v_rowMany v_rowWay v_stuffWhich v_stuffNear v_keptMany v_keptFirst v_restMany v_restFirst y_order) → va_S A s.heap H locs → W p l e rm_X8_nextOrder s m (([Value.ref o, Value.int a1] : List Value).toArray) below meth c H locs 0 0 Q (F0 m 4 ls []) := by
    intro n4
    induction n4 with
    | zero =>
      intro x2 y_order H locs ls hf hl hP hD hS
      exact g_no hf
    | succ n4 ih4 =>
      intro x2 y_order H locs ls hf hl hP hD hS
      unfold x8_nextOrder_b4 at hf
      refine lv_iload_n hx hb dX8_nextOrder_4 rfl (lv_at hl 2 rfl) ?_
      refine lv_if_lt (tgt := 31) hx hb dX8_nextOrder_5 (by decide) (fun c14 => ?_) (fun c14 => ?_)
      · have hf := g_pos c14 hf
        exact J31 x2 y_order H locs ls hf (lv_sub hl [0, 1, 2] rfl) hP hD hS
      · have hf := g_neg c14 hf
        refine lv_aload_n hx hb dX8_nextOrder_8 rfl (lv_at hl 0 rfl) ?_
        refine va_get (D := (dC, dI)) (ci := 8) (v := .ref o_order) (C := RX8) (T := TX8) (N := 33) hx hb hts hiX8 hown hK hP 0 rfl rfl 21 (by decide) (hts (.fieldLink RX8 44 "GreenJarsModel" "order" "[I") (by decide +kernel)) (fun _ h9 => h9) rfl dX8_nextOrder_9 ?_
        refine lv_iload_n hx hb dX8_nextOrder_12 rfl (lv_at hl 2 rfl) ?_
        obtain ⟨h15, hf⟩ := g_chk hf
        refine va_iald hx hb hK hP 1 0 rfl rfl (gIn_vp h15) dX8_nextOrder_13 ?_
        refine lv_aload_n hx hb dX8_nextOrder_14 rfl (lv_at hl 0 rfl) ?_
        refine va_get (D := (dC, dI)) (ci := 8) (v := .ref o_order) (C := RX8) (T := TX8) (N := 33) hx hb hts hiX8 hown hK hP 0 rfl rfl 21 (by decide) (hts (.fieldLink RX8 44 "GreenJarsModel" "order" "[I") (by decide +kernel)) (fun _ h9 => h9) rfl dX8_nextOrder_15 ?_
        refine lv_iload_n hx hb dX8_nextOrder_18 rfl (lv_at hl 2 rfl) ?_
        refine lv_iconst (v := (1 : Int32)) hx hb dX8_nextOrder_19 (by decide) ?_
        refine lv_iadd hx hb dX8_nextOrder_20 ?_
        obtain ⟨h16, hf⟩ := g_chk hf
        refine va_iald hx hb hK hP 1 0 rfl rfl (gIn_vp h16) dX8_nextOrder_21 ?_
        refine lv_icmp_le (tgt := 31) hx hb dX8_nextOrder_22 (by decide) (fun c17 => ?_) (fun c17 => ?_)
        · have hf := g_pos c17 hf
          exact J31 x2 y_order H locs ls hf (lv_sub hl [0, 1, 2] rfl) hP hD hS
        · have hf := g_neg c17 hf
          refine lv_iinc (v := (x2 + (-1 : Int32))) (lv' := [(2, .int (x2 + (-1 : Int32))), (0, .ref o), (1, .int a1)]) hx hb dX8_nextOrder_25 hl (k := 2) rfl rfl (by decide) rfl (fun ls hl => ?_)
          refine lv_goto (tgt := 4) hx hb dX8_nextOrder_28 (by decide) ?_
          exact ih4 (x2 + (-1 : Int32)) y_order H locs ls hf (lv_sub hl [1, 2, 0] rfl) hP hD hS
  unfold x8_nextOrder at hf
  refine lv_iload_n hx hb dX8_nextOrder_0 rfl (lv_at hl 1 rfl) ?_
  refine lv_iconst (v := (2 : Int32)) hx hb dX8_nextOrder_1 (by decide) ?_
  refine lv_isub hx hb dX8_nextOrder_2 ?_
  refine lv_istore_n (lv' := [(2, .int (a1 - (2 : Int32))), (0, .ref o), (1, .int a1)]) hx hb dX8_nextOrder_3 rfl hl (by decide) rfl (fun ls hl => ?_)
  exact L4 N (a1 - (2 : Int32)) f_order H locs ls hf (lv_sub hl [1, 2, 0] rfl) hP hD hS
abbrev rm_X8_laySpots : Room := { frames := 1, cells := 0, slots := 0, locals := 21 }
abbrev w_X8_laySpots (cI cZ cG : ClassId) (o : Nat) (o_text : Nat) (o_kind : Nat) (o_size : Nat) (o_readJar : Nat) (o_page : Nat) (o_trial : Nat) (o_book : Nat) (o_kept : Nat) (o_isKept : Nat) (o_tastedFrom : Nat) (o_tastedTo : Nat) (o_order : Nat) (o_spots : Nat) (o_gains : Nat) (o_value : Nat) (v_thrown : Int32) (v_textSize : Int32) (v_place : Int32) (v_jars : Int32) (v_readPlaces : Int32) (v_readJars : Int32) (v_acts : Int32) (v_tasted : Int32) (v_seed : Int64) (v_some : Int32) (v_rowMany : Int32) (v_rowWay : Int32) (v_stuffWhich : Int32) (v_stuffNear : Int32) (v_keptMany : Int32) (v_keptFirst : Int32) (v_restMany : Int32) (v_restFirst : Int32) (f_page : Nat → Int32) (f_order : Nat → Int32) (f_spots : Nat → Int32) : va_W := [(o, .inr (8, [.int v_thrown, .ref o_text, .int v_textSize, .int v_place, .int v_jars, .ref o_kind, .ref o_size, .int v_readPlaces, .int v_readJars, .ref o_readJar, .ref o_page, .ref o_trial, .ref o_book, .int v_acts, .ref o_kept, .ref o_isKept, .int v_tasted, .ref o_tastedFrom, .ref o_tastedTo, .long v_seed, .int v_some, .ref o_order, .ref o_spots, .int v_rowMany, .int v_rowWay, .int v_stuffWhich, .int v_stuffNear, .int v_keptMany, .int v_keptFirst, .int v_restMany, .int v_restFirst, .ref o_gains, .ref o_value])), (o_page, .inl (cI, 37, .inl f_page)), (o_order, .inl (cI, 6, .inl f_order)), (o_spots, .inl (cI, 6, .inl f_spots))]
set_option maxHeartbeats 4000000 in
set_option maxRecDepth 100000 in
theorem c_X8_laySpots (l : Launch) (dC : Nat → ClassId) (dI : Nat → Nat → Nat) (cI cZ cG : ClassId) {N : Nat} (o : Nat) (o_text : Nat) (o_kind : Nat) (o_size : Nat) (o_readJar : Nat) (o_page : Nat) (o_trial : Nat) (o_book : Nat) (o_kept : Nat) (o_isKept : Nat) (o_tastedFrom : Nat) (o_tastedTo : Nat) (o_order : Nat) (o_spots : Nat) (o_gains : Nat) (o_value : Nat) (sz : Nat) (v_thrown : Int32) (v_textSize : Int32) (v_place : Int32) (v_jars : Int32) (v_readPlaces : Int32) (v_readJars : Int32) (v_acts : Int32) (v_tasted : Int32) (v_seed : Int64) (v_some : Int32) (v_rowMany : Int32) (v_rowWay : Int32) (v_stuffWhich : Int32) (v_stuffNear : Int32) (v_keptMany : Int32) (v_keptFirst : Int32) (v_restMany : Int32) (v_restFirst : Int32) (f_page : Nat → Int32) (f_order : Nat → Int32) (f_spots : Nat → Int32) {r0 : Int32} {n_order : Nat → Int32} {n_spots : Nat → Int32} (hf : x8_laySpots N v_jars f_page f_order f_spots = some (r0, n_order, n_spots)) : Met l yX8_laySpots wsX8_laySpots rm_X8_laySpots (va_Pc [.ref o] (gW (dC, dI) vwCl (gT cI cZ cG) (w_X8_laySpots cI cZ cG o o_text o_kind o_size o_readJar o_page o_trial o_book o_kept o_isKept o_tastedFrom o_tastedTo o_order o_spots o_gains o_value v_thrown v_textSize v_place v_jars v_readPlaces v_readJars v_acts v_tasted v_seed v_some v_rowMany v_rowWay v_stuffWhich v_stuffNear v_keptMany v_keptFirst v_restMany v_restFirst f_page f_order f_spots) sz)) (va_Qi (fun r _ => r = r0) (gE (dC, dI) vwCl (gT cI cZ cG) (w_X8_laySpots cI cZ cG o o_text o_kind o_size o_readJar o_page o_trial o_book o_kept o_isKept o_tastedFrom o_tastedTo o_order o_spots o_gains o_value v_thrown v_textSize v_place v_jars v_readPlaces v_readJars v_acts v_tasted v_seed v_some v_rowMany v_rowWay v_stuffWhich v_stuffNear v_keptMany v_keptFirst v_restMany v_restFirst f_page n_order n_spots) (va_A (w_X8_laySpots cI cZ cG o o_text o_kind o_size o_readJar o_page o_trial o_book o_kept o_isKept o_tastedFrom o_tastedTo o_order o_spots o_gains o_value v_thrown v_textSize v_place v_jars v_readPlaces v_readJars v_acts v_tasted v_seed v_some v_rowMany v_rowWay v_stuffWhich v_stuffNear v_keptMany v_keptFirst v_restMany v_restFirst f_page f_order f_spots) sz)) (va_A (w_X8_laySpots cI cZ cG o o_text o_kind o_size o_readJar o_page o_trial o_book o_kept o_isKept o_tastedFrom o_tastedTo o_order o_spots o_gains o_value v_thrown v_textSize v_place v_jars v_readPlaces v_readJars v_acts v_tasted v_seed v_some v_rowMany v_rowWay v_stuffWhich v_stuffNear v_keptMany v_keptFirst v_restMany v_restFirst f_page f_order f_spots) sz)) 0 0 (va_A (w_X8_laySpots cI cZ cG o o_text o_kind o_size o_readJar o_page o_trial o_book o_kept o_isKept o_tastedFrom o_tastedTo o_order o_spots o_gains o_value v_thrown v_textSize v_place v_jars v_readPlaces v_readJars v_acts v_tasted v_seed v_some v_rowMany v_rowWay v_stuffWhich v_stuffNear v_keptMany v_keptFirst v_restMany v_restFirst f_page f_order f_spots) sz) := by
  refine Met.ofW (cc := cX8_laySpots) (maxL := 4) (ret := (some .int)) (by decide) rfl ?_
  intro p e s m args below meth c s₁ B hml hv
  obtain ⟨rfl, hv⟩ := hv
  obtain ⟨hsz, hP, hK, hN, hD0⟩ := hv
  have hx := B.exec
  have hb := B.bytes
  have hr := B.returns
  have hts := atoms_spec (ws := wsX8_laySpots) B.pre
  have hown : s.vm.findClass RX8 = some m.cls := findClass_of_methodNamed B.named
  have hlocks := B.notSynchronized
  have hiX8 : ∀ w ∈ u_ws RX8 TX8 33, w ∈ wsX8_laySpots := fun w h => List.mem_cons_of_mem _ (List.mem_append_right _ h)
  subst hsz
  have hD := hD0.self (sz := s.heap.size)
  generalize hAe : va_A (w_X8_laySpots cI cZ cG o o_text o_kind o_size o_readJar o_page o_trial o_book o_kept o_isKept o_tastedFrom o_tastedTo o_order o_spots o_gains o_value v_thrown v_textSize v_place v_jars v_readPlaces v_readJars v_acts v_tasted v_seed v_some v_rowMany v_rowWay v_stuffWhich v_stuffNear v_keptMany v_keptFirst v_restMany v_restFirst f_page f_order f_spots) s.heap.size = A at hD ⊢
  have hA : ∀ q : Nat, s.heap.size ≤ q → A q := fun q h => by rw [← hAe]; exact Or.inr h
  clear hD0
  have hS : va_S A s.heap s.heap [] := va_S.rf
  have hP : va_P (dC, dI) vwCl (w_X8_laySpots cI cZ cG o o_text o_kind o_size o_readJar o_page o_trial o_book o_kept o_isKept o_tastedFrom o_tastedTo o_order o_spots o_gains o_value v_thrown v_textSize v_place v_jars v_readPlaces v_readJars v_acts v_tasted v_seed v_some v_rowMany v_rowWay v_stuffWhich v_stuffNear v_keptMany v_keptFirst v_restMany v_restFirst f_page f_order f_spots) s.heap := hP
  obtain ⟨Q, hQ⟩ : ∃ Q : State → Prop, Q = MQ below (va_Qi (fun r _ => r = r0) (gE (dC, dI) vwCl (gT cI cZ cG) (w_X8_laySpots cI cZ cG o o_text o_kind o_size o_readJar o_page o_trial o_book o_kept o_isKept o_tastedFrom o_tastedTo o_order o_spots o_gains o_value v_thrown v_textSize v_place v_jars v_readPlaces v_readJars v_acts v_tasted v_seed v_some v_rowMany v_rowWay v_stuffWhich v_stuffNear v_keptMany v_keptFirst v_restMany v_restFirst f_page n_order n_spots) A) A) (([Value.ref o] : List Value).toArray) s 0 0 A := ⟨_, rfl⟩
  have hl := lv_entry ([.ref o]) (n := 4) (Nat.le_of_ble_eq_true rfl)
  rw [← hQ, lg_entry_eq]
  generalize (lg_sl ([.ref o]) ++ List.replicate (4 - (lg_sl ([.ref o])).length) Slot.unset).toArray = ls at hl ⊢
  have hl : lv_has ls 4 [(0, .ref o)] := hl
  generalize hH : s.heap = H at hP hS ⊢
  have hS : va_S A s.heap H [] := by rw [hH]; exact hS
  generalize hlc : ([] : List Loc) = locs at hS ⊢
  show W p l e rm_X8_laySpots s m (([Value.ref o] : List Value).toArray) below meth c H locs 0 0 Q (F0 m 0 ls [])
  have L67 : ∀ (n67 : Nat), ∀ (x1 : Int32) (x2 : Int32) (y_order : Nat → Int32) (y_spots : Nat → Int32) (H : Heap) (locs : List Loc) (ls : Array Slot), x8_laySpots_b67 N v_jars f_page n67 x1 x2 y_order y_spots = some (r0, n_order, n_spots) → lv_has ls 4 [(0, .ref o), (1, .int x1), (2, .int x2)] → va_P (dC, dI) vwCl (w_X8_laySpots cI cZ cG o o_text o_kind o_size o_readJar o_page o_trial o_book o_kept o_isKept o_tastedFrom o_tastedTo o_order o_spots o_gains o_value v_thrown v_textSize v_place v_jars v_readPlaces v_readJars v_acts v_tasted v_seed v_some v_rowMany v_rowWay v_stuffWhich v_stuffNear v_keptMany v_keptFirst v_restMany v_restFirst f_page y_order y_spots) H → va_D A (w_X8_laySpots cI cZ cG o o_text o_kind o_size o_readJar o_page o_trial o_book o_kept o_isKept o_tastedFrom o_tastedTo o_order o_spots o_gains o_value v_thrown v_textSize v_place v_jars v_readPlaces v_readJars v_acts v_tasted v_seed v_some v_rowMany v_rowWay v_stuffWhich v_stuffNear v_keptMany v_keptFirst v_restMany v_restFirst f_page y_order y_spots) → va_S A s.heap H locs → W p l e rm_X8_laySpots s m (([Value.ref o] : List Value).toArray) below meth c H locs 0 0 Q (F0 m 67 ls []) := by
    intro n67
    induction n67 with
    | zero =>
      intro x1 x2 y_order y_spots H locs ls hf hl hP hD hS
      exact g_no hf
    | succ n67 ih67 =>
      intro x1 x2 y_order y_spots H locs ls hf hl hP hD hS
      unfold x8_laySpots_b67 at hf
      refine lv_iload_n hx hb dX8_laySpots_67 rfl (lv_at hl 2 rfl) ?_
      refine lv_aload_n hx hb dX8_laySpots_68 rfl (lv_at hl 0 rfl) ?_
      refine va_get (D := (dC, dI)) (ci := 8) (v := .int v_jars) (C := RX8) (T := TX8) (N := 33) hx hb hts hiX8 hown hK hP 0 rfl rfl 4 (by decide) (hts (.fieldLink RX8 60 "GreenJarsModel" "jars" "I") (by decide +kernel)) (fun _ h9 => h9) rfl dX8_laySpots_69 ?_
      refine lv_icmp_ge (tgt := 102) hx hb dX8_laySpots_72 (by decide) (fun c1 => ?_) (fun c1 => ?_)
      · have hf := g_pos c1 hf
        refine lv_iload_n hx hb dX8_laySpots_102 rfl (lv_at hl 1 rfl) ?_
        rw [hQ]
        cases hf
        exact W.iret hx hb hr (fun t ht hW => ⟨⟨_, (), rfl, rfl, by rw [ht]; exact hP, va_K.moved hW.alike hK, hD⟩, hS.F ht⟩) hS.2.2 dX8_laySpots_103
      · have hf := g_neg c1 hf
        refine lv_aload_n hx hb dX8_laySpots_75 rfl (lv_at hl 0 rfl) ?_
        refine va_get (D := (dC, dI)) (ci := 8) (v := .ref o_page) (C := RX8) (T := TX8) (N := 33) hx hb hts hiX8 hown hK hP 0 rfl rfl 10 (by decide) (hts (.fieldLink RX8 22 "GreenJarsModel" "page" "[I") (by decide +kernel)) (fun _ h9 => h9) rfl dX8_laySpots_76 ?_
        refine lv_iload_n hx hb dX8_laySpots_79 rfl (lv_at hl 2 rfl) ?_
        obtain ⟨r2, hc3, hf⟩ := g_b1 hf
        refine g_rS (As := [.ref o_page, .int x2]) (rest := []) ⟨hx, hb, hml, hown, hts⟩ (c_X8_isWhole l dC dI cI cZ cG o_page  f_page x2 hc3) (va_cwS 2 hts gX8_laySpots_X8_isWhole rfl rfl rfl (by decide +kernel) ⟨Nat.le_of_ble_eq_true rfl, Nat.le_of_ble_eq_true rfl⟩) hK hN (hP.sub [1] rfl) rfl hl.1 rfl (Nat.le_of_ble_eq_true rfl) dX8_laySpots_80 ⟨Nat.zero_le _, Nat.zero_le _⟩ ?_
        refine lv_if_eq (tgt := 96) hx hb dX8_laySpots_83 (by decide) (fun c4 => ?_) (fun c4 => ?_)
        · have hf := g_pos c4 hf
          refine lv_iinc (v := (x2 + (1 : Int32))) (lv' := [(2, .int (x2 + (1 : Int32))), (0, .ref o), (1, .int x1)]) hx hb dX8_laySpots_96 hl (k := 2) rfl rfl (by decide) rfl (fun ls hl => ?_)
          refine lv_goto (tgt := 67) hx hb dX8_laySpots_99 (by decide) ?_
          exact ih67 x1 (x2 + (1 : Int32)) y_order y_spots H locs ls hf (lv_sub hl [1, 2, 0] rfl) hP hD hS
        · have hf := g_neg c4 hf
          refine lv_aload_n hx hb dX8_laySpots_86 rfl (lv_at hl 0 rfl) ?_
          refine va_get (D := (dC, dI)) (ci := 8) (v := .ref o_spots) (C := RX8) (T := TX8) (N := 33) hx hb hts hiX8 hown hK hP 0 rfl rfl 22 (by decide) (hts (.fieldLink RX8 47 "GreenJarsModel" "spots" "[I") (by decide +kernel)) (fun _ h9 => h9) rfl dX8_laySpots_87 ?_
          refine lv_iload_n hx hb dX8_laySpots_90 rfl (lv_at hl 1 rfl) ?_
          refine lv_iload_n hx hb dX8_laySpots_91 rfl (lv_at hl 2 rfl) ?_
          obtain ⟨h5, hf⟩ := g_chk hf
          refine va_iast hx hb hK hP hD hS 3 0 rfl rfl (gIn_vp h5) dX8_laySpots_92 (fun H locs hP hD hS => ?_)
          have hP : va_P (dC, dI) vwCl (w_X8_laySpots cI cZ cG o o_text o_kind o_size o_readJar o_page o_trial o_book o_kept o_isKept o_tastedFrom o_tastedTo o_order o_spots o_gains o_value v_thrown v_textSize v_place v_jars v_readPlaces v_readJars v_acts v_tasted v_seed v_some v_rowMany v_rowWay v_stuffWhich v_stuffNear v_keptMany v_keptFirst v_restMany v_restFirst f_page y_order (upd y_spots x1.toNatClampNeg x2)) H := hP
          have hD : va_D A (w_X8_laySpots cI cZ cG o o_text o_kind o_size o_readJar o_page o_trial o_book o_kept o_isKept o_tastedFrom o_tastedTo o_order o_spots o_gains o_value v_thrown v_textSize v_place v_jars v_readPlaces v_readJars v_acts v_tasted v_seed v_some v_rowMany v_rowWay v_stuffWhich v_stuffNear v_keptMany v_keptFirst v_restMany v_restFirst f_page y_order (upd y_spots x1.toNatClampNeg x2)) := hD
          refine lv_iinc (v := (x1 + (1 : Int32))) (lv' := [(1, .int (x1 + (1 : Int32))), (0, .ref o), (2, .int x2)]) hx hb dX8_laySpots_93 hl (k := 1) rfl rfl (by decide) rfl (fun ls hl => ?_)
          refine lv_iinc (v := (x2 + (1 : Int32))) (lv' := [(2, .int (x2 + (1 : Int32))), (1, .int (x1 + (1 : Int32))), (0, .ref o)]) hx hb dX8_laySpots_96 hl (k := 2) rfl rfl (by decide) rfl (fun ls hl => ?_)
          refine lv_goto (tgt := 67) hx hb dX8_laySpots_99 (by decide) ?_
          exact ih67 (x1 + (1 : Int32)) (x2 + (1 : Int32)) y_order (upd y_spots x1.toNatClampNeg x2) H locs ls hf (lv_sub hl [2, 1, 0] rfl) hP hD hS
  have L4 : ∀ (n4 : Nat), ∀ (x1 : Int32) (x2 : Int32) (y_order : Nat → Int32) (y_spots : Nat → Int32) (H : Heap) (locs : List Loc) (ls : Array Slot), x8_laySpots_b4 N v_jars f_page n4 x1 x2 y_order y_spots = some (r0, n_order, n_spots) → lv_has ls 4 [(0, .ref o), (1, .int x1), (2, .int x2)] → va_P (dC, dI) vwCl (w_X8_laySpots cI cZ cG o o_text o_kind o_size o_readJar o_page o_trial o_book o_kept o_isKept o_tastedFrom o_tastedTo o_order o_spots o_gains o_value v_thrown v_textSize v_place v_jars v_readPlaces v_readJars v_acts v_tasted v_seed v_some v_rowMany v_rowWay v_stuffWhich v_stuffNear v_keptMany v_keptFirst v_restMany v_restFirst f_page y_order y_spots) H → va_D A (w_X8_laySpots cI cZ cG o o_text o_kind o_size o_readJar o_page o_trial o_book o_kept o_isKept o_tastedFrom o_tastedTo o_order o_spots o_gains o_value v_thrown v_textSize v_place v_jars v_readPlaces v_readJars v_acts v_tasted v_seed v_some v_rowMany v_rowWay v_stuffWhich v_stuffNear v_keptMany v_keptFirst v_restMany v_restFirst f_page y_order y_spots) → va_S A s.heap H locs → W p l e rm_X8_laySpots s m (([Value.ref o] : List Value).toArray) below meth c H locs 0 0 Q (F0 m 4 ls []) := by
    intro n4
    induction n4 with
    | zero =>
      intro x1 x2 y_order y_spots H locs ls hf hl hP hD hS
      exact g_no hf
    | succ n4 ih4 =>
      have L12 : ∀ (n12 : Nat), ∀ (x1 : Int32) (x2 : Int32) (x3 : Int32) (y_order : Nat → Int32) (y_spots : Nat → Int32) (H : Heap) (locs : List Loc) (ls : Array Slot), x8_laySpots_b12 N v_jars f_page (x8_laySpots_b4 N v_jars f_page n4) n12 x1 x2 x3 y_order y_spots = some (r0, n_order, n_spots) → lv_has ls 4 [(0, .ref o), (1, .int x1), (2, .int x2), (3, .int x3)] → va_P (dC, dI) vwCl (w_X8_laySpots cI cZ cG o o_text o_kind o_size o_readJar o_page o_trial o_book o_kept o_isKept o_tastedFrom o_tastedTo o_order o_spots o_gains o_value v_thrown v_textSize v_place v_jars v_readPlaces v_readJars v_acts v_tasted v_seed v_some v_rowMany v_rowWay v_stuffWhich v_stuffNear v_keptMany v_keptFirst v_restMany v_restFirst f_page y_order y_spots) H → va_D A (w_X8_laySpots cI cZ cG o o_text o_kind o_size o_readJar o_page o_trial o_book o_kept o_isKept o_tastedFrom o_tastedTo o_order o_spots o_gains o_value v_thrown v_textSize v_place v_jars v_readPlaces v_readJars v_acts v_tasted v_seed v_some v_rowMany v_rowWay v_stuffWhich v_stuffNear v_keptMany v_keptFirst v_restMany v_restFirst f_page y_order y_spots) → va_S A s.heap H locs → W p l e rm_X8_laySpots s m (([Value.ref o] : List Value).toArray) below meth c H locs 0 0 Q (F0 m 12 ls []) := by
        intro n12
        induction n12 with
        | zero =>
          intro x1 x2 x3 y_order y_spots H locs ls hf hl hP hD hS
          exact g_no hf
        | succ n12 ih12 =>
          intro x1 x2 x3 y_order y_spots H locs ls hf hl hP hD hS
          unfold x8_laySpots_b12 at hf
          refine lv_iload_n hx hb dX8_laySpots_12 rfl (lv_at hl 3 rfl) ?_
          refine lv_aload_n hx hb dX8_laySpots_13 rfl (lv_at hl 0 rfl) ?_
          refine va_get (D := (dC, dI)) (ci := 8) (v := .int v_jars) (C := RX8) (T := TX8) (N := 33) hx hb hts hiX8 hown hK hP 0 rfl rfl 4 (by decide) (hts (.fieldLink RX8 60 "GreenJarsModel" "jars" "I") (by decide +kernel)) (fun _ h9 => h9) rfl dX8_laySpots_14 ?_
          refine lv_icmp_ge (tgt := 57) hx hb dX8_laySpots_17 (by decide) (fun c6 => ?_) (fun c6 => ?_)
          · have hf := g_pos c6 hf
            refine lv_iinc (v := (x2 + (1 : Int32))) (lv' := [(2, .int (x2 + (1 : Int32))), (0, .ref o), (1, .int x1), (3, .int x3)]) hx hb dX8_laySpots_57 hl (k := 2) rfl rfl (by decide) rfl (fun ls hl => ?_)
            refine lv_goto (tgt := 4) hx hb dX8_laySpots_60 (by decide) ?_
            exact ih4 x1 (x2 + (1 : Int32)) y_order y_spots H locs ls hf (lv_sub hl [1, 2, 0] rfl) hP hD hS
          · have hf := g_neg c6 hf
            refine lv_aload_n hx hb dX8_laySpots_20 rfl (lv_at hl 0 rfl) ?_
            refine va_get (D := (dC, dI)) (ci := 8) (v := .ref o_page) (C := RX8) (T := TX8) (N := 33) hx hb hts hiX8 hown hK hP 0 rfl rfl 10 (by decide) (hts (.fieldLink RX8 22 "GreenJarsModel" "page" "[I") (by decide +kernel)) (fun _ h9 => h9) rfl dX8_laySpots_21 ?_
            refine lv_iload_n hx hb dX8_laySpots_24 rfl (lv_at hl 3 rfl) ?_
            obtain ⟨r7, hc8, hf⟩ := g_b1 hf
            refine g_rS (As := [.ref o_page, .int x3]) (rest := []) ⟨hx, hb, hml, hown, hts⟩ (c_X8_isWhole l dC dI cI cZ cG o_page  f_page x3 hc8) (va_cwS 2 hts gX8_laySpots_X8_isWhole rfl rfl rfl (by decide +kernel) ⟨Nat.le_of_ble_eq_true rfl, Nat.le_of_ble_eq_true rfl⟩) hK hN (hP.sub [1] rfl) rfl hl.1 rfl (Nat.le_of_ble_eq_true rfl) dX8_laySpots_25 ⟨Nat.zero_le _, Nat.zero_le _⟩ ?_
            refine lv_if_eq (tgt := 51) hx hb dX8_laySpots_28 (by decide) (fun c9 => ?_) (fun c9 => ?_)
            · have hf := g_pos c9 hf
              refine lv_iinc (v := (x3 + (1 : Int32))) (lv' := [(3, .int (x3 + (1 : Int32))), (0, .ref o), (1, .int x1), (2, .int x2)]) hx hb dX8_laySpots_51 hl (k := 3) rfl rfl (by decide) rfl (fun ls hl => ?_)
              refine lv_goto (tgt := 12) hx hb dX8_laySpots_54 (by decide) ?_
              exact ih12 x1 x2 (x3 + (1 : Int32)) y_order y_spots H locs ls hf (lv_sub hl [1, 2, 3, 0] rfl) hP hD hS
            · have hf := g_neg c9 hf
              refine lv_aload_n hx hb dX8_laySpots_31 rfl (lv_at hl 0 rfl) ?_
              refine va_get (D := (dC, dI)) (ci := 8) (v := .ref o_page) (C := RX8) (T := TX8) (N := 33) hx hb hts hiX8 hown hK hP 0 rfl rfl 10 (by decide) (hts (.fieldLink RX8 22 "GreenJarsModel" "page" "[I") (by decide +kernel)) (fun _ h9 => h9) rfl dX8_laySpots_32 ?_
              refine lv_iload_n hx hb dX8_laySpots_35 rfl (lv_at hl 3 rfl) ?_
              obtain ⟨h10, hf⟩ := g_chk hf
              refine va_iald hx hb hK hP 1 0 rfl rfl (gIn_vp h10) dX8_laySpots_36 ?_
              refine lv_iload_n hx hb dX8_laySpots_37 rfl (lv_at hl 2 rfl) ?_
              refine lv_icmp_ne (tgt := 51) hx hb dX8_laySpots_38 (by decide) (fun c11 => ?_) (fun c11 => ?_)
              · have hf := g_neg c11 hf
                refine lv_iinc (v := (x3 + (1 : Int32))) (lv' := [(3, .int (x3 + (1 : Int32))), (0, .ref o), (1, .int x1), (2, .int x2)]) hx hb dX8_laySpots_51 hl (k := 3) rfl rfl (by decide) rfl (fun ls hl => ?_)
                refine lv_goto (tgt := 12) hx hb dX8_laySpots_54 (by decide) ?_
                exact ih12 x1 x2 (x3 + (1 : Int32)) y_order y_spots H locs ls hf (lv_sub hl [1, 2, 3, 0] rfl) hP hD hS
              · have hf := g_pos c11 hf
                refine lv_aload_n hx hb dX8_laySpots_41 rfl (lv_at hl 0 rfl) ?_
                refine va_get (D := (dC, dI)) (ci := 8) (v := .ref o_order) (C := RX8) (T := TX8) (N := 33) hx hb hts hiX8 hown hK hP 0 rfl rfl 21 (by decide) (hts (.fieldLink RX8 44 "GreenJarsModel" "order" "[I") (by decide +kernel)) (fun _ h9 => h9) rfl dX8_laySpots_42 ?_
                refine lv_iload_n hx hb dX8_laySpots_45 rfl (lv_at hl 1 rfl) ?_
                refine lv_iload_n hx hb dX8_laySpots_46 rfl (lv_at hl 2 rfl) ?_
                obtain ⟨h12, hf⟩ := g_chk hf
                refine va_iast hx hb hK hP hD hS 2 0 rfl rfl (gIn_vp h12) dX8_laySpots_47 (fun H locs hP hD hS => ?_)
                have hP : va_P (dC, dI) vwCl (w_X8_laySpots cI cZ cG o o_text o_kind o_size o_readJar o_page o_trial o_book o_kept o_isKept o_tastedFrom o_tastedTo o_order o_spots o_gains o_value v_thrown v_textSize v_place v_jars v_readPlaces v_readJars v_acts v_tasted v_seed v_some v_rowMany v_rowWay v_stuffWhich v_stuffNear v_keptMany v_keptFirst v_restMany v_restFirst f_page (upd y_order x1.toNatClampNeg x2) y_spots) H := hP
                have hD : va_D A (w_X8_laySpots cI cZ cG o o_text o_kind o_size o_readJar o_page o_trial o_book o_kept o_isKept o_tastedFrom o_tastedTo o_order o_spots o_gains o_value v_thrown v_textSize v_place v_jars v_readPlaces v_readJars v_acts v_tasted v_seed v_some v_rowMany v_rowWay v_stuffWhich v_stuffNear v_keptMany v_keptFirst v_restMany v_restFirst f_page (upd y_order x1.toNatClampNeg x2) y_spots) := hD
                refine lv_iinc (v := (x1 + (1 : Int32))) (lv' := [(1, .int (x1 + (1 : Int32))), (0, .ref o), (2, .int x2), (3, .int x3)]) hx hb dX8_laySpots_48 hl (k := 1) rfl rfl (by decide) rfl (fun ls hl => ?_)
                refine lv_iinc (v := (x3 + (1 : Int32))) (lv' := [(3, .int (x3 + (1 : Int32))), (1, .int (x1 + (1 : Int32))), (0, .ref o), (2, .int x2)]) hx hb dX8_laySpots_51 hl (k := 3) rfl rfl (by decide) rfl (fun ls hl => ?_)
                refine lv_goto (tgt := 12) hx hb dX8_laySpots_54 (by decide) ?_
                exact ih12 (x1 + (1 : Int32)) x2 (x3 + (1 : Int32)) (upd y_order x1.toNatClampNeg x2) y_spots H locs ls hf (lv_sub hl [2, 1, 3, 0] rfl) hP hD hS
      intro x1 x2 y_order y_spots H locs ls hf hl hP hD hS
      unfold x8_laySpots_b4 at hf
      refine lv_iload_n hx hb dX8_laySpots_4 rfl (lv_at hl 2 rfl) ?_
      refine lv_bipush (v := (8 : Int32)) hx hb dX8_laySpots_5 (by decide +kernel) ?_
      refine lv_icmp_ge (tgt := 63) hx hb dX8_laySpots_7 (by decide) (fun c13 => ?_) (fun c13 => ?_)
      · have hf := g_pos c13 hf
        refine lv_iconst (v := (0 : Int32)) hx hb dX8_laySpots_63 (by decide) ?_
        refine lv_istore_n (lv' := [(1, .int (0 : Int32)), (0, .ref o), (2, .int x2)]) hx hb dX8_laySpots_64 rfl hl (by decide) rfl (fun ls hl => ?_)
        refine lv_iconst (v := (0 : Int32)) hx hb dX8_laySpots_65 (by decide) ?_
        refine lv_istore_n (lv' := [(2, .int (0 : Int32)), (1, .int (0 : Int32)), (0, .ref o)]) hx hb dX8_laySpots_66 rfl hl (by decide) rfl (fun ls hl => ?_)
        exact L67 N (0 : Int32) (0 : Int32) y_order y_spots H locs ls hf (lv_sub hl [2, 1, 0] rfl) hP hD hS
      · have hf := g_neg c13 hf
        refine lv_iconst (v := (0 : Int32)) hx hb dX8_laySpots_10 (by decide) ?_
        refine lv_istore_n (lv' := [(3, .int (0 : Int32)), (0, .ref o), (1, .int x1), (2, .int x2)]) hx hb dX8_laySpots_11 rfl hl (by decide) rfl (fun ls hl => ?_)
        exact L12 N x1 x2 (0 : Int32) y_order y_spots H locs ls hf (lv_sub hl [1, 2, 3, 0] rfl) hP hD hS
  unfold x8_laySpots at hf
  refine lv_iconst (v := (0 : Int32)) hx hb dX8_laySpots_0 (by decide) ?_
  refine lv_istore_n (lv' := [(1, .int (0 : Int32)), (0, .ref o)]) hx hb dX8_laySpots_1 rfl hl (by decide) rfl (fun ls hl => ?_)
  refine lv_iconst (v := (0 : Int32)) hx hb dX8_laySpots_2 (by decide) ?_
  refine lv_istore_n (lv' := [(2, .int (0 : Int32)), (1, .int (0 : Int32)), (0, .ref o)]) hx hb dX8_laySpots_3 rfl hl (by decide) rfl (fun ls hl => ?_)
  exact L4 N (0 : Int32) (0 : Int32) f_order f_spots H locs ls hf (lv_sub hl [2, 1, 0] rfl) hP hD hS
abbrev rm_X8_findRow : Room := { frames := 5, cells := 0, slots := 0, locals := 118 }
abbrev w_X8_findRow (cI cZ cG : ClassId) (o : Nat) (o_text : Nat) (o_kind : Nat) (o_size : Nat) (o_readJar : Nat) (o_page : Nat) (o_trial : Nat) (o_book : Nat) (o_kept : Nat) (o_isKept : Nat) (o_tastedFrom : Nat) (o_tastedTo : Nat) (o_order : Nat) (o_spots : Nat) (o_gains : Nat) (o_value : Nat) (v_thrown : Int32) (v_textSize : Int32) (v_place : Int32) (v_jars : Int32) (v_readPlaces : Int32) (v_readJars : Int32) (v_acts : Int32) (v_tasted : Int32) (v_seed : Int64) (v_some : Int32) (v_rowMany : Int32) (v_rowWay : Int32) (v_stuffWhich : Int32) (v_stuffNear : Int32) (v_keptMany : Int32) (v_keptFirst : Int32) (v_restMany : Int32) (v_restFirst : Int32) (f_kind : Nat → Int32) (f_page : Nat → Int32) (f_trial : Nat → Int32) (f_order : Nat → Int32) (f_spots : Nat → Int32) : va_W := [(o, .inr (8, [.int v_thrown, .ref o_text, .int v_textSize, .int v_place, .int v_jars, .ref o_kind, .ref o_size, .int v_readPlaces, .int v_readJars, .ref o_readJar, .ref o_page, .ref o_trial, .ref o_book, .int v_acts, .ref o_kept, .ref o_isKept, .int v_tasted, .ref o_tastedFrom, .ref o_tastedTo, .long v_seed, .int v_some, .ref o_order, .ref o_spots, .int v_rowMany, .int v_rowWay, .int v_stuffWhich, .int v_stuffNear, .int v_keptMany, .int v_keptFirst, .int v_restMany, .int v_restFirst, .ref o_gains, .ref o_value])), (o_kind, .inl (cI, 6, .inl f_kind)), (o_page, .inl (cI, 37, .inl f_page)), (o_trial, .inl (cI, 37, .inl f_trial)), (o_order, .inl (cI, 6, .inl f_order)), (o_spots, .inl (cI, 6, .inl f_spots))]
set_option maxHeartbeats 4000000 in
set_option maxRecDepth 100000 in
theorem c_X8_findRow (l : Launch) (dC : Nat → ClassId) (dI : Nat → Nat → Nat) (cI cZ cG : ClassId) {N : Nat} (o : Nat) (o_text : Nat) (o_kind : Nat) (o_size : Nat) (o_readJar : Nat) (o_page : Nat) (o_trial : Nat) (o_book : Nat) (o_kept : Nat) (o_isKept : Nat) (o_tastedFrom : Nat) (o_tastedTo : Nat) (o_order : Nat) (o_spots : Nat) (o_gains : Nat) (o_value : Nat) (sz : Nat) (v_thrown : Int32) (v_textSize : Int32) (v_place : Int32) (v_jars : Int32) (v_readPlaces : Int32) (v_readJars : Int32) (v_acts : Int32) (v_tasted : Int32) (v_seed : Int64) (v_some : Int32) (v_rowMany : Int32) (v_rowWay : Int32) (v_stuffWhich : Int32) (v_stuffNear : Int32) (v_keptMany : Int32) (v_keptFirst : Int32) (v_restMany : Int32) (v_restFirst : Int32) (f_kind : Nat → Int32) (f_page : Nat → Int32) (f_trial : Nat → Int32) (f_order : Nat → Int32) (f_spots : Nat → Int32) {n_some : Int32} {n_rowMany : Int32} {n_rowWay : Int32} {n_trial : Nat → Int32} {n_order : Nat → Int32} {n_spots : Nat → Int32} (hf : x8_findRow N v_jars v_some v_rowMany v_rowWay f_kind f_page f_trial f_order f_spots = some (n_some, n_rowMany, n_rowWay, n_trial, n_order, n_spots)) : Met l yX8_findRow wsX8_findRow rm_X8_findRow (va_Pc [.ref o] (gW (dC, dI) vwCl (gT cI cZ cG) (w_X8_findRow cI cZ cG o o_text o_kind o_size o_readJar o_page o_trial o_book o_kept o_isKept o_tastedFrom o_tastedTo o_order o_spots o_gains o_value v_thrown v_textSize v_place v_jars v_readPlaces v_readJars v_acts v_tasted v_seed v_some v_rowMany v_rowWay v_stuffWhich v_stuffNear v_keptMany v_keptFirst v_restMany v_restFirst f_kind f_page f_trial f_order f_spots) sz)) (va_Qv (fun _ => True) (gE (dC, dI) vwCl (gT cI cZ cG) (w_X8_findRow cI cZ cG o o_text o_kind o_size o_readJar o_page o_trial o_book o_kept o_isKept o_tastedFrom o_tastedTo o_order o_spots o_gains o_value v_thrown v_textSize v_place v_jars v_readPlaces v_readJars v_acts v_tasted v_seed n_some n_rowMany n_rowWay v_stuffWhich v_stuffNear v_keptMany v_keptFirst v_restMany v_restFirst f_kind f_page n_trial n_order n_spots) (va_A (w_X8_findRow cI cZ cG o o_text o_kind o_size o_readJar o_page o_trial o_book o_kept o_isKept o_tastedFrom o_tastedTo o_order o_spots o_gains o_value v_thrown v_textSize v_place v_jars v_readPlaces v_readJars v_acts v_tasted v_seed v_some v_rowMany v_rowWay v_stuffWhich v_stuffNear v_keptMany v_keptFirst v_restMany v_restFirst f_kind f_page f_trial f_order f_spots) sz)) (va_A (w_X8_findRow cI cZ cG o o_text o_kind o_size o_readJar o_page o_trial o_book o_kept o_isKept o_tastedFrom o_tastedTo o_order o_spots o_gains o_value v_thrown v_textSize v_place v_jars v_readPlaces v_readJars v_acts v_tasted v_seed v_some v_rowMany v_rowWay v_stuffWhich v_stuffNear v_keptMany v_keptFirst v_restMany v_restFirst f_kind f_page f_trial f_order f_spots) sz)) 0 0 (va_A (w_X8_findRow cI cZ cG o o_text o_kind o_size o_readJar o_page o_trial o_book o_kept o_isKept o_tastedFrom o_tastedTo o_order o_spots o_gains o_value v_thrown v_textSize v_place v_jars v_readPlaces v_readJars v_acts v_tasted v_seed v_some v_rowMany v_rowWay v_stuffWhich v_stuffNear v_keptMany v_keptFirst v_restMany v_restFirst f_kind f_page f_trial f_order f_spots) sz) := by
  refine Met.ofW (cc := cX8_findRow) (maxL := 5) (ret := none) (by decide) rfl ?_
  intro p e s m args below meth c s₁ B hml hv
  obtain ⟨rfl, hv⟩ := hv
  obtain ⟨hsz, hP, hK, hN, hD0⟩ := hv
  have hx := B.exec
  have hb := B.bytes
  have hr := B.returns
  have hts := atoms_spec (ws := wsX8_findRow) B.pre
  have hown : s.vm.findClass RX8 = some m.cls := findClass_of_methodNamed B.named
  have hlocks := B.notSynchronized
  have hiX8 : ∀ w ∈ u_ws RX8 TX8 33, w ∈ wsX8_findRow := fun w h => List.mem_cons_of_mem _ (List.mem_append_right _ h)
  subst hsz
  have hD := hD0.self (sz := s.heap.size)
  generalize hAe : va_A (w_X8_findRow cI cZ cG o o_text o_kind o_size o_readJar o_page o_trial o_book o_kept o_isKept o_tastedFrom o_tastedTo o_order o_spots o_gains o_value v_thrown v_textSize v_place v_jars v_readPlaces v_readJars v_acts v_tasted v_seed v_some v_rowMany v_rowWay v_stuffWhich v_stuffNear v_keptMany v_keptFirst v_restMany v_restFirst f_kind f_page f_trial f_order f_spots) s.heap.size = A at hD ⊢
  have hA : ∀ q : Nat, s.heap.size ≤ q → A q := fun q h => by rw [← hAe]; exact Or.inr h
  clear hD0
  have hS : va_S A s.heap s.heap [] := va_S.rf
  have hP : va_P (dC, dI) vwCl (w_X8_findRow cI cZ cG o o_text o_kind o_size o_readJar o_page o_trial o_book o_kept o_isKept o_tastedFrom o_tastedTo o_order o_spots o_gains o_value v_thrown v_textSize v_place v_jars v_readPlaces v_readJars v_acts v_tasted v_seed v_some v_rowMany v_rowWay v_stuffWhich v_stuffNear v_keptMany v_keptFirst v_restMany v_restFirst f_kind f_page f_trial f_order f_spots) s.heap := hP
  obtain ⟨Q, hQ⟩ : ∃ Q : State → Prop, Q = MQ below (va_Qv (fun _ => True) (gE (dC, dI) vwCl (gT cI cZ cG) (w_X8_findRow cI cZ cG o o_text o_kind o_size o_readJar o_page o_trial o_book o_kept o_isKept o_tastedFrom o_tastedTo o_order o_spots o_gains o_value v_thrown v_textSize v_place v_jars v_readPlaces v_readJars v_acts v_tasted v_seed n_some n_rowMany n_rowWay v_stuffWhich v_stuffNear v_keptMany v_keptFirst v_restMany v_restFirst f_kind f_page n_trial n_order n_spots) A) A) (([Value.ref o] : List Value).toArray) s 0 0 A := ⟨_, rfl⟩
  have hl := lv_entry ([.ref o]) (n := 5) (Nat.le_of_ble_eq_true rfl)
  rw [← hQ, lg_entry_eq]
  generalize (lg_sl ([.ref o]) ++ List.replicate (5 - (lg_sl ([.ref o])).length) Slot.unset).toArray = ls at hl ⊢
  have hl : lv_has ls 5 [(0, .ref o)] := hl
  generalize hH : s.heap = H at hP hS ⊢
  have hS : va_S A s.heap H [] := by rw [hH]; exact hS
  generalize hlc : ([] : List Loc) = locs at hS ⊢
  show W p l e rm_X8_findRow s m (([Value.ref o] : List Value).toArray) below meth c H locs 0 0 Q (F0 m 0 ls [])
  have L34 : ∀ (n34 : Nat), ∀ (x1 : Int32) (x2 : Int32) (y_some : Int32) (y_rowMany : Int32) (y_rowWay : Int32) (y_trial : Nat → Int32) (y_order : Nat → Int32) (y_spots : Nat → Int32) (H : Heap) (locs : List Loc) (ls : Array Slot), x8_findRow_b34 N v_jars f_kind f_page n34 x1 x2 y_some y_rowMany y_rowWay y_trial y_order y_spots = some (n_some, n_rowMany, n_rowWay, n_trial, n_order, n_spots) → lv_has ls 5 [(0, .ref o), (1, .int x1), (2, .int x2)] → va_P (dC, dI) vwCl (w_X8_findRow cI cZ cG o o_text o_kind o_size o_readJar o_page o_trial o_book o_kept o_isKept o_tastedFrom o_tastedTo o_order o_spots o_gains o_value v_thrown v_textSize v_place v_jars v_readPlaces v_readJars v_acts v_tasted v_seed y_some y_rowMany y_rowWay v_stuffWhich v_stuffNear v_keptMany v_keptFirst v_restMany v_restFirst f_kind f_page y_trial y_order y_spots) H → va_D A (w_X8_findRow cI cZ cG o o_text o_kind o_size o_readJar o_page o_trial o_book o_kept o_isKept o_tastedFrom o_tastedTo o_order o_spots o_gains o_value v_thrown v_textSize v_place v_jars v_readPlaces v_readJars v_acts v_tasted v_seed y_some y_rowMany y_rowWay v_stuffWhich v_stuffNear v_keptMany v_keptFirst v_restMany v_restFirst f_kind f_page y_trial y_order y_spots) → va_S A s.heap H locs → W p l e rm_X8_findRow s m (([Value.ref o] : List Value).toArray) below meth c H locs 0 0 Q (F0 m 34 ls []) := by
    intro n34
    induction n34 with
    | zero =>
      intro x1 x2 y_some y_rowMany y_rowWay y_trial y_order y_spots H locs ls hf hl hP hD hS
      exact g_no hf
    | succ n34 ih34 =>
      have J143 : ∀ (x1 : Int32) (t1 : Int32) (y_some : Int32) (y_rowMany : Int32) (y_rowWay : Int32) (y_trial : Nat → Int32) (y_order : Nat → Int32) (y_spots : Nat → Int32) (H : Heap) (locs : List Loc) (ls : Array Slot), x8_findRow_b143 N v_jars f_kind f_page (x8_findRow_b34 N v_jars f_kind f_page n34) x1 t1 y_some y_rowMany y_rowWay y_trial y_order y_spots = some (n_some, n_rowMany, n_rowWay, n_trial, n_order, n_spots) → lv_has ls 5 [(0, .ref o), (1, .int x1)] → va_P (dC, dI) vwCl (w_X8_findRow cI cZ cG o o_text o_kind o_size o_readJar o_page o_trial o_book o_kept o_isKept o_tastedFrom o_tastedTo o_order o_spots o_gains o_value v_thrown v_textSize v_place v_jars v_readPlaces v_readJars v_acts v_tasted v_seed y_some y_rowMany y_rowWay v_stuffWhich v_stuffNear v_keptMany v_keptFirst v_restMany v_restFirst f_kind f_page y_trial y_order y_spots) H → va_D A (w_X8_findRow cI cZ cG o o_text o_kind o_size o_readJar o_page o_trial o_book o_kept o_isKept o_tastedFrom o_tastedTo o_order o_spots o_gains o_value v_thrown v_textSize v_place v_jars v_readPlaces v_readJars v_acts v_tasted v_seed y_some y_rowMany y_rowWay v_stuffWhich v_stuffNear v_keptMany v_keptFirst v_restMany v_restFirst f_kind f_page y_trial y_order y_spots) → va_S A s.heap H locs → W p l e rm_X8_findRow s m (([Value.ref o] : List Value).toArray) below meth c H locs 0 0 Q (F0 m 143 ls [.int t1, .ref o]) := by
        intro x1 t1 y_some y_rowMany y_rowWay y_trial y_order y_spots H locs ls hf hl hP hD hS
        unfold x8_findRow_b143 at hf
        refine va_put (D := (dC, dI)) (ci := 8) (v := .int t1) (ty := .int) (C := RX8) (T := TX8) (N := 33) hx hb hts hiX8 tyX8 tyX8_ok nmX8 hown hK hP hD hS 0 rfl rfl 23 (by decide) (hts (.fieldLink RX8 190 "GreenJarsModel" "rowMany" "I") (by decide +kernel)) (fun _ h9 => h9) rfl (by decide +kernel) rfl rfl (Nat.le_of_ble_eq_true rfl) dX8_findRow_143 (fun H locs hP hD hS => ?_)
        have hP : va_P (dC, dI) vwCl (w_X8_findRow cI cZ cG o o_text o_kind o_size o_readJar o_page o_trial o_book o_kept o_isKept o_tastedFrom o_tastedTo o_order o_spots o_gains o_value v_thrown v_textSize v_place v_jars v_readPlaces v_readJars v_acts v_tasted v_seed y_some t1 y_rowWay v_stuffWhich v_stuffNear v_keptMany v_keptFirst v_restMany v_restFirst f_kind f_page y_trial y_order y_spots) H := hP
        have hD : va_D A (w_X8_findRow cI cZ cG o o_text o_kind o_size o_readJar o_page o_trial o_book o_kept o_isKept o_tastedFrom o_tastedTo o_order o_spots o_gains o_value v_thrown v_textSize v_place v_jars v_readPlaces v_readJars v_acts v_tasted v_seed y_some t1 y_rowWay v_stuffWhich v_stuffNear v_keptMany v_keptFirst v_restMany v_restFirst f_kind f_page y_trial y_order y_spots) := hD
        refine lv_aload_n hx hb dX8_findRow_146 rfl (lv_at hl 0 rfl) ?_
        refine lv_iload_n hx hb dX8_findRow_147 rfl (lv_at hl 1 rfl) ?_
        obtain ⟨r1, y2, hc3, hf⟩ := g_b2 hf
        refine g_wV (As := [.int x1]) (rest := []) (wr := [(o_kind, .inl (cI, 6, .inl f_kind)), (o_page, .inl (cI, 37, .inl f_page)), (o_trial, .inl (cI, 37, .inl y_trial)), (o_spots, .inl (cI, 6, .inl y_spots))]) (wn := (w_X8_findRow cI cZ cG o o_text o_kind o_size o_readJar o_page o_trial o_book o_kept o_isKept o_tastedFrom o_tastedTo o_order o_spots o_gains o_value v_thrown v_textSize v_place v_jars v_readPlaces v_readJars v_acts v_tasted v_seed y_some t1 y_rowWay v_stuffWhich v_stuffNear v_keptMany v_keptFirst v_restMany v_restFirst f_kind f_page y_trial y2 y_spots)) ⟨hx, hb, hml, hown, hts⟩ (c_X8_nextOrder l dC dI cI cZ cG o o_text o_kind o_size o_readJar o_page o_trial o_book o_kept o_isKept o_tastedFrom o_tastedTo o_order o_spots o_gains o_value H.size  v_thrown v_textSize v_place v_jars v_readPlaces v_readJars v_acts v_tasted v_seed y_some t1 y_rowWay v_stuffWhich v_stuffNear v_keptMany v_keptFirst v_restMany v_restFirst y_order x1 hc3) (cwV 1 hts gX8_findRow_X8_nextOrder rfl rfl rfl (by decide +kernel) ⟨Nat.le_of_ble_eq_true rfl, Nat.le_of_ble_eq_true rfl⟩) hK hN hP hD hS hA [0, 4] [1, 2, 3, 5] [4, 0, 1, 2, 5, 3] rfl rfl (by decide) rfl (by decide) (by decide) rfl (by decide) (va_recv hK hP (ci := 8) (q0 := 0) rfl rfl) rfl hl.1 rfl (Nat.le_of_ble_eq_true rfl) dX8_findRow_148 ⟨Nat.zero_le _, Nat.zero_le _⟩ (fun H locs hP hD hS => ?_)
        refine lv_istore_n (lv' := [(2, .int r1), (0, .ref o), (1, .int x1)]) hx hb dX8_findRow_151 rfl hl (by decide) rfl (fun ls hl => ?_)
        refine lv_goto (tgt := 34) hx hb dX8_findRow_152 (by decide) ?_
        exact ih34 x1 r1 y_some t1 y_rowWay y_trial y2 y_spots H locs ls hf (lv_sub hl [1, 2, 0] rfl) hP hD hS
      have J121 : ∀ (x1 : Int32) (x4 : Int32) (t1 : Int32) (y_some : Int32) (y_rowMany : Int32) (y_rowWay : Int32) (y_trial : Nat → Int32) (y_order : Nat → Int32) (y_spots : Nat → Int32) (H : Heap) (locs : List Loc) (ls : Array Slot), x8_findRow_b121 N v_jars f_kind f_page (x8_findRow_b34 N v_jars f_kind f_page n34) x1 x4 t1 y_some y_rowMany y_rowWay y_trial y_order y_spots = some (n_some, n_rowMany, n_rowWay, n_trial, n_order, n_spots) → lv_has ls 5 [(0, .ref o), (1, .int x1), (4, .int x4)] → va_P (dC, dI) vwCl (w_X8_findRow cI cZ cG o o_text o_kind o_size o_readJar o_page o_trial o_book o_kept o_isKept o_tastedFrom o_tastedTo o_order o_spots o_gains o_value v_thrown v_textSize v_place v_jars v_readPlaces v_readJars v_acts v_tasted v_seed y_some y_rowMany y_rowWay v_stuffWhich v_stuffNear v_keptMany v_keptFirst v_restMany v_restFirst f_kind f_page y_trial y_order y_spots) H → va_D A (w_X8_findRow cI cZ cG o o_text o_kind o_size o_readJar o_page o_trial o_book o_kept o_isKept o_tastedFrom o_tastedTo o_order o_spots o_gains o_value v_thrown v_textSize v_place v_jars v_readPlaces v_readJars v_acts v_tasted v_seed y_some y_rowMany y_rowWay v_stuffWhich v_stuffNear v_keptMany v_keptFirst v_restMany v_restFirst f_kind f_page y_trial y_order y_spots) → va_S A s.heap H locs → W p l e rm_X8_findRow s m (([Value.ref o] : List Value).toArray) below meth c H locs 0 0 Q (F0 m 121 ls [.int t1, .ref o]) := by
        intro x1 x4 t1 y_some y_rowMany y_rowWay y_trial y_order y_spots H locs ls hf hl hP hD hS
        unfold x8_findRow_b121 at hf
        refine va_put (D := (dC, dI)) (ci := 8) (v := .int t1) (ty := .int) (C := RX8) (T := TX8) (N := 33) hx hb hts hiX8 tyX8 tyX8_ok nmX8 hown hK hP hD hS 0 rfl rfl 24 (by decide) (hts (.fieldLink RX8 193 "GreenJarsModel" "rowWay" "I") (by decide +kernel)) (fun _ h9 => h9) rfl (by decide +kernel) rfl rfl (Nat.le_of_ble_eq_true rfl) dX8_findRow_121 (fun H locs hP hD hS => ?_)
        have hP : va_P (dC, dI) vwCl (w_X8_findRow cI cZ cG o o_text o_kind o_size o_readJar o_page o_trial o_book o_kept o_isKept o_tastedFrom o_tastedTo o_order o_spots o_gains o_value v_thrown v_textSize v_place v_jars v_readPlaces v_readJars v_acts v_tasted v_seed y_some y_rowMany t1 v_stuffWhich v_stuffNear v_keptMany v_keptFirst v_restMany v_restFirst f_kind f_page y_trial y_order y_spots) H := hP
        have hD : va_D A (w_X8_findRow cI cZ cG o o_text o_kind o_size o_readJar o_page o_trial o_book o_kept o_isKept o_tastedFrom o_tastedTo o_order o_spots o_gains o_value v_thrown v_textSize v_place v_jars v_readPlaces v_readJars v_acts v_tasted v_seed y_some y_rowMany t1 v_stuffWhich v_stuffNear v_keptMany v_keptFirst v_restMany v_restFirst f_kind f_page y_trial y_order y_spots) := hD
        refine lv_aload_n hx hb dX8_findRow_124 rfl (lv_at hl 0 rfl) ?_
        refine lv_iload hx hb dX8_findRow_125 (lv_at hl 2 rfl) ?_
        refine lv_aload_n hx hb dX8_findRow_127 rfl (lv_at hl 0 rfl) ?_
        refine va_get (D := (dC, dI)) (ci := 8) (v := .int y_rowMany) (C := RX8) (T := TX8) (N := 33) hx hb hts hiX8 hown hK hP 0 rfl rfl 23 (by decide) (hts (.fieldLink RX8 190 "GreenJarsModel" "rowMany" "I") (by decide +kernel)) (fun _ h9 => h9) rfl dX8_findRow_128 ?_
        refine lv_icmp_le (tgt := 139) hx hb dX8_findRow_131 (by decide) (fun c4 => ?_) (fun c4 => ?_)
        · have hf := g_pos c4 hf
          refine lv_aload_n hx hb dX8_findRow_139 rfl (lv_at hl 0 rfl) ?_
          refine va_get (D := (dC, dI)) (ci := 8) (v := .int y_rowMany) (C := RX8) (T := TX8) (N := 33) hx hb hts hiX8 hown hK hP 0 rfl rfl 23 (by decide) (hts (.fieldLink RX8 190 "GreenJarsModel" "rowMany" "I") (by decide +kernel)) (fun _ h9 => h9) rfl dX8_findRow_140 ?_
          exact J143 x1 y_rowMany y_some y_rowMany t1 y_trial y_order y_spots H locs ls hf (lv_sub hl [0, 1] rfl) hP hD hS
        · have hf := g_neg c4 hf
          refine lv_iload hx hb dX8_findRow_134 (lv_at hl 2 rfl) ?_
          refine lv_goto (tgt := 143) hx hb dX8_findRow_136 (by decide) ?_
          exact J143 x1 x4 y_some y_rowMany t1 y_trial y_order y_spots H locs ls hf (lv_sub hl [0, 1] rfl) hP hD hS
      have L47 : ∀ (n47 : Nat), ∀ (x1 : Int32) (x3 : Int32) (x4 : Int32) (y_some : Int32) (y_rowMany : Int32) (y_rowWay : Int32) (y_trial : Nat → Int32) (y_order : Nat → Int32) (y_spots : Nat → Int32) (H : Heap) (locs : List Loc) (ls : Array Slot), x8_findRow_b47 N v_jars f_kind f_page (x8_findRow_b34 N v_jars f_kind f_page n34) n47 x1 x3 x4 y_some y_rowMany y_rowWay y_trial y_order y_spots = some (n_some, n_rowMany, n_rowWay, n_trial, n_order, n_spots) → lv_has ls 5 [(0, .ref o), (1, .int x1), (3, .int x3), (4, .int x4)] → va_P (dC, dI) vwCl (w_X8_findRow cI cZ cG o o_text o_kind o_size o_readJar o_page o_trial o_book o_kept o_isKept o_tastedFrom o_tastedTo o_order o_spots o_gains o_value v_thrown v_textSize v_place v_jars v_readPlaces v_readJars v_acts v_tasted v_seed y_some y_rowMany y_rowWay v_stuffWhich v_stuffNear v_keptMany v_keptFirst v_restMany v_restFirst f_kind f_page y_trial y_order y_spots) H → va_D A (w_X8_findRow cI cZ cG o o_text o_kind o_size o_readJar o_page o_trial o_book o_kept o_isKept o_tastedFrom o_tastedTo o_order o_spots o_gains o_value v_thrown v_textSize v_place v_jars v_readPlaces v_readJars v_acts v_tasted v_seed y_some y_rowMany y_rowWay v_stuffWhich v_stuffNear v_keptMany v_keptFirst v_restMany v_restFirst f_kind f_page y_trial y_order y_spots) → va_S A s.heap H locs → W p l e rm_X8_findRow s m (([Value.ref o] : List Value).toArray) below meth c H locs 0 0 Q (F0 m 47 ls []) := by
        intro n47
        induction n47 with
        | zero =>
          intro x1 x3 x4 y_some y_rowMany y_rowWay y_trial y_order y_spots H locs ls hf hl hP hD hS
          exact g_no hf
        | succ n47 ih47 =>
          intro x1 x3 x4 y_some y_rowMany y_rowWay y_trial y_order y_spots H locs ls hf hl hP hD hS
          unfold x8_findRow_b47 at hf
          refine lv_iload hx hb dX8_findRow_47 (lv_at hl 3 rfl) ?_
          refine lv_iload_n hx hb dX8_findRow_49 rfl (lv_at hl 1 rfl) ?_
          refine lv_icmp_ge (tgt := 93) hx hb dX8_findRow_50 (by decide) (fun c5 => ?_) (fun c5 => ?_)
          · have hf := g_pos c5 hf
            refine lv_aload_n hx hb dX8_findRow_93 rfl (lv_at hl 0 rfl) ?_
            refine lv_aload_n hx hb dX8_findRow_94 rfl (lv_at hl 0 rfl) ?_
            refine va_get (D := (dC, dI)) (ci := 8) (v := .ref o_trial) (C := RX8) (T := TX8) (N := 33) hx hb hts hiX8 hown hK hP 0 rfl rfl 11 (by decide) (hts (.fieldLink RX8 25 "GreenJarsModel" "trial" "[I") (by decide +kernel)) (fun _ h9 => h9) rfl dX8_findRow_95 ?_
            obtain ⟨r6, hc7, hf⟩ := g_b1 hf
            refine g_rV (As := [.ref o_trial]) (rest := []) ⟨hx, hb, hml, hown, hts⟩ (c_X8_pairsOf l dC dI cI cZ cG o o_text o_kind o_size o_readJar o_page o_trial o_book o_kept o_isKept o_tastedFrom o_tastedTo o_order o_spots o_gains o_value o_trial  v_thrown v_textSize v_place v_jars v_readPlaces v_readJars v_acts v_tasted v_seed y_some y_rowMany y_rowWay v_stuffWhich v_stuffNear v_keptMany v_keptFirst v_restMany v_restFirst f_kind y_trial hc7) (cwV 1 hts gX8_findRow_X8_pairsOf rfl rfl rfl (by decide +kernel) ⟨Nat.le_of_ble_eq_true rfl, Nat.le_of_ble_eq_true rfl⟩) hK hN (hP.sub [0, 1, 3] rfl) (va_recv hK hP (ci := 8) (q0 := 0) rfl rfl) rfl hl.1 rfl (Nat.le_of_ble_eq_true rfl) dX8_findRow_98 ⟨Nat.zero_le _, Nat.zero_le _⟩ ?_
            refine lv_istore (lv' := [(4, .int r6), (0, .ref o), (1, .int x1), (3, .int x3)]) hx hb dX8_findRow_101 hl (by decide) rfl (fun ls hl => ?_)
            refine lv_aload_n hx hb dX8_findRow_103 rfl (lv_at hl 1 rfl) ?_
            refine lv_iload hx hb dX8_findRow_104 (lv_at hl 0 rfl) ?_
            refine lv_aload_n hx hb dX8_findRow_106 rfl (lv_at hl 1 rfl) ?_
            refine va_get (D := (dC, dI)) (ci := 8) (v := .int y_rowMany) (C := RX8) (T := TX8) (N := 33) hx hb hts hiX8 hown hK hP 0 rfl rfl 23 (by decide) (hts (.fieldLink RX8 190 "GreenJarsModel" "rowMany" "I") (by decide +kernel)) (fun _ h9 => h9) rfl dX8_findRow_107 ?_
            refine lv_icmp_le (tgt := 117) hx hb dX8_findRow_110 (by decide) (fun c8 => ?_) (fun c8 => ?_)
            · have hf := g_pos c8 hf
              refine lv_aload_n hx hb dX8_findRow_117 rfl (lv_at hl 1 rfl) ?_
              refine va_get (D := (dC, dI)) (ci := 8) (v := .int y_rowWay) (C := RX8) (T := TX8) (N := 33) hx hb hts hiX8 hown hK hP 0 rfl rfl 24 (by decide) (hts (.fieldLink RX8 193 "GreenJarsModel" "rowWay" "I") (by decide +kernel)) (fun _ h9 => h9) rfl dX8_findRow_118 ?_
              exact J121 x1 r6 y_rowWay y_some y_rowMany y_rowWay y_trial y_order y_spots H locs ls hf (lv_sub hl [1, 2, 0] rfl) hP hD hS
            · have hf := g_neg c8 hf
              refine lv_iload_n hx hb dX8_findRow_113 rfl (lv_at hl 3 rfl) ?_
              refine lv_goto (tgt := 121) hx hb dX8_findRow_114 (by decide) ?_
              exact J121 x1 r6 x3 y_some y_rowMany y_rowWay y_trial y_order y_spots H locs ls hf (lv_sub hl [1, 2, 0] rfl) hP hD hS
          · have hf := g_neg c5 hf
            refine lv_aload_n hx hb dX8_findRow_53 rfl (lv_at hl 0 rfl) ?_
            refine va_get (D := (dC, dI)) (ci := 8) (v := .ref o_trial) (C := RX8) (T := TX8) (N := 33) hx hb hts hiX8 hown hK hP 0 rfl rfl 11 (by decide) (hts (.fieldLink RX8 25 "GreenJarsModel" "trial" "[I") (by decide +kernel)) (fun _ h9 => h9) rfl dX8_findRow_54 ?_
            refine lv_aload_n hx hb dX8_findRow_57 rfl (lv_at hl 0 rfl) ?_
            refine va_get (D := (dC, dI)) (ci := 8) (v := .ref o_spots) (C := RX8) (T := TX8) (N := 33) hx hb hts hiX8 hown hK hP 0 rfl rfl 22 (by decide) (hts (.fieldLink RX8 47 "GreenJarsModel" "spots" "[I") (by decide +kernel)) (fun _ h9 => h9) rfl dX8_findRow_58 ?_
            refine lv_iload hx hb dX8_findRow_61 (lv_at hl 3 rfl) ?_
            obtain ⟨h9, hf⟩ := g_chk hf
            refine va_iald hx hb hK hP 5 0 rfl rfl (gIn_vp h9) dX8_findRow_63 ?_
            refine lv_aload_n hx hb dX8_findRow_64 rfl (lv_at hl 0 rfl) ?_
            refine va_get (D := (dC, dI)) (ci := 8) (v := .ref o_order) (C := RX8) (T := TX8) (N := 33) hx hb hts hiX8 hown hK hP 0 rfl rfl 21 (by decide) (hts (.fieldLink RX8 44 "GreenJarsModel" "order" "[I") (by decide +kernel)) (fun _ h9 => h9) rfl dX8_findRow_65 ?_
            refine lv_iload hx hb dX8_findRow_68 (lv_at hl 3 rfl) ?_
            obtain ⟨h10, hf⟩ := g_chk hf
            refine va_iald hx hb hK hP 4 0 rfl rfl (gIn_vp h10) dX8_findRow_70 ?_
            obtain ⟨h11, hf⟩ := g_chk hf
            refine va_iast hx hb hK hP hD hS 3 0 rfl rfl (gIn_vp h11) dX8_findRow_71 (fun H locs hP hD hS => ?_)
            have hP : va_P (dC, dI) vwCl (w_X8_findRow cI cZ cG o o_text o_kind o_size o_readJar o_page o_trial o_book o_kept o_isKept o_tastedFrom o_tastedTo o_order o_spots o_gains o_value v_thrown v_textSize v_place v_jars v_readPlaces v_readJars v_acts v_tasted v_seed y_some y_rowMany y_rowWay v_stuffWhich v_stuffNear v_keptMany v_keptFirst v_restMany v_restFirst f_kind f_page (upd y_trial (y_spots x4.toNatClampNeg).toNatClampNeg (y_order x4.toNatClampNeg)) y_order y_spots) H := hP
            have hD : va_D A (w_X8_findRow cI cZ cG o o_text o_kind o_size o_readJar o_page o_trial o_book o_kept o_isKept o_tastedFrom o_tastedTo o_order o_spots o_gains o_value v_thrown v_textSize v_place v_jars v_readPlaces v_readJars v_acts v_tasted v_seed y_some y_rowMany y_rowWay v_stuffWhich v_stuffNear v_keptMany v_keptFirst v_restMany v_restFirst f_kind f_page (upd y_trial (y_spots x4.toNatClampNeg).toNatClampNeg (y_order x4.toNatClampNeg)) y_order y_spots) := hD
            refine lv_bipush (v := (10 : Int32)) hx hb dX8_findRow_72 (by decide +kernel) ?_
            refine lv_iload_n hx hb dX8_findRow_74 rfl (lv_at hl 2 rfl) ?_
            refine lv_imul hx hb dX8_findRow_75 ?_
            refine lv_aload_n hx hb dX8_findRow_76 rfl (lv_at hl 0 rfl) ?_
            refine va_get (D := (dC, dI)) (ci := 8) (v := .ref o_order) (C := RX8) (T := TX8) (N := 33) hx hb hts hiX8 hown hK hP 0 rfl rfl 21 (by decide) (hts (.fieldLink RX8 44 "GreenJarsModel" "order" "[I") (by decide +kernel)) (fun _ h9 => h9) rfl dX8_findRow_77 ?_
            refine lv_iload hx hb dX8_findRow_80 (lv_at hl 3 rfl) ?_
            obtain ⟨h12, hf⟩ := g_chk hf
            refine va_iald hx hb hK hP 4 0 rfl rfl (gIn_vp h12) dX8_findRow_82 ?_
            refine lv_iadd hx hb dX8_findRow_83 ?_
            refine lv_iconst (v := (1 : Int32)) hx hb dX8_findRow_84 (by decide) ?_
            refine lv_iadd hx hb dX8_findRow_85 ?_
            refine lv_istore_n (lv' := [(3, .int ((((10 : Int32) * x3) + (y_order x4.toNatClampNeg)) + (1 : Int32))), (0, .ref o), (1, .int x1), (4, .int x4)]) hx hb dX8_findRow_86 rfl hl (by decide) rfl (fun ls hl => ?_)
            refine lv_iinc (v := (x4 + (1 : Int32))) (lv' := [(4, .int (x4 + (1 : Int32))), (3, .int ((((10 : Int32) * x3) + (y_order x4.toNatClampNeg)) + (1 : Int32))), (0, .ref o), (1, .int x1)]) hx hb dX8_findRow_87 hl (k := 3) rfl rfl (by decide) rfl (fun ls hl => ?_)
            refine lv_goto (tgt := 47) hx hb dX8_findRow_90 (by decide) ?_
            exact ih47 x1 ((((10 : Int32) * x3) + (y_order x4.toNatClampNeg)) + (1 : Int32)) (x4 + (1 : Int32)) y_some y_rowMany y_rowWay (upd y_trial (y_spots x4.toNatClampNeg).toNatClampNeg (y_order x4.toNatClampNeg)) y_order y_spots H locs ls hf (lv_sub hl [2, 3, 1, 0] rfl) hP hD hS
      intro x1 x2 y_some y_rowMany y_rowWay y_trial y_order y_spots H locs ls hf hl hP hD hS
      unfold x8_findRow_b34 at hf
      refine lv_iload_n hx hb dX8_findRow_34 rfl (lv_at hl 2 rfl) ?_
      refine lv_if_eq (tgt := 155) hx hb dX8_findRow_35 (by decide) (fun c13 => ?_) (fun c13 => ?_)
      · have hf := g_pos c13 hf
        rw [hQ]
        cases hf
        exact W.vret hx hb hr (fun t ht hW => ⟨⟨(), rfl, trivial, by rw [ht]; exact hP, va_K.moved hW.alike hK, hD⟩, hS.F ht⟩) hS.2.2 dX8_findRow_155
      · have hf := g_neg c13 hf
        refine lv_aload_n hx hb dX8_findRow_38 rfl (lv_at hl 0 rfl) ?_
        obtain ⟨y14, y15, hc16, hf⟩ := g_b2 hf
        refine g_wVv (As := []) (rest := []) (wr := [(o_kind, .inl (cI, 6, .inl f_kind)), (o_order, .inl (cI, 6, .inl y_order)), (o_spots, .inl (cI, 6, .inl y_spots))]) (wn := (w_X8_findRow cI cZ cG o o_text o_kind o_size o_readJar o_page o_trial o_book o_kept o_isKept o_tastedFrom o_tastedTo o_order o_spots o_gains o_value v_thrown v_textSize v_place v_jars v_readPlaces v_readJars v_acts v_tasted v_seed y14 y_rowMany y_rowWay v_stuffWhich v_stuffNear v_keptMany v_keptFirst v_restMany v_restFirst f_kind f_page y15 y_order y_spots)) ⟨hx, hb, hml, hown, hts⟩ (c_X8_begin l dC dI cI cZ cG o o_text o_kind o_size o_readJar o_page o_trial o_book o_kept o_isKept o_tastedFrom o_tastedTo o_order o_spots o_gains o_value H.size  v_thrown v_textSize v_place v_jars v_readPlaces v_readJars v_acts v_tasted v_seed y_some y_rowMany y_rowWay v_stuffWhich v_stuffNear v_keptMany v_keptFirst v_restMany v_restFirst f_page y_trial hc16) (cwV 0 hts gX8_findRow_X8_begin rfl rfl rfl (by decide +kernel) ⟨Nat.le_of_ble_eq_true rfl, Nat.le_of_ble_eq_true rfl⟩) hK hN hP hD hS hA [0, 2, 3] [1, 4, 5] [3, 0, 4, 5, 1, 2] rfl rfl (by decide) rfl (by decide) (by decide) rfl (by decide) (va_recv hK hP (ci := 8) (q0 := 0) rfl rfl) rfl hl.1 rfl (Nat.le_of_ble_eq_true rfl) dX8_findRow_39 ⟨Nat.zero_le _, Nat.zero_le _⟩ (fun H locs hP hD hS => ?_)
        refine lv_iconst (v := (0 : Int32)) hx hb dX8_findRow_42 (by decide) ?_
        refine lv_istore_n (lv' := [(3, .int (0 : Int32)), (0, .ref o), (1, .int x1), (2, .int x2)]) hx hb dX8_findRow_43 rfl hl (by decide) rfl (fun ls hl => ?_)
        refine lv_iconst (v := (0 : Int32)) hx hb dX8_findRow_44 (by decide) ?_
        refine lv_istore (lv' := [(4, .int (0 : Int32)), (3, .int (0 : Int32)), (0, .ref o), (1, .int x1), (2, .int x2)]) hx hb dX8_findRow_45 hl (by decide) rfl (fun ls hl => ?_)
        exact L47 N x1 (0 : Int32) (0 : Int32) y14 y_rowMany y_rowWay y15 y_order y_spots H locs ls hf (lv_sub hl [2, 3, 1, 0] rfl) hP hD hS
  have J16 : ∀ (x1 : Int32) (t1 : Int32) (y_some : Int32) (y_rowMany : Int32) (y_rowWay : Int32) (y_trial : Nat → Int32) (y_order : Nat → Int32) (y_spots : Nat → Int32) (H : Heap) (locs : List Loc) (ls : Array Slot), x8_findRow_b16 N v_jars f_kind f_page x1 t1 y_some y_rowMany y_rowWay y_trial y_order y_spots = some (n_some, n_rowMany, n_rowWay, n_trial, n_order, n_spots) → lv_has ls 5 [(0, .ref o), (1, .int x1)] → va_P (dC, dI) vwCl (w_X8_findRow cI cZ cG o o_text o_kind o_size o_readJar o_page o_trial o_book o_kept o_isKept o_tastedFrom o_tastedTo o_order o_spots o_gains o_value v_thrown v_textSize v_place v_jars v_readPlaces v_readJars v_acts v_tasted v_seed y_some y_rowMany y_rowWay v_stuffWhich v_stuffNear v_keptMany v_keptFirst v_restMany v_restFirst f_kind f_page y_trial y_order y_spots) H → va_D A (w_X8_findRow cI cZ cG o o_text o_kind o_size o_readJar o_page o_trial o_book o_kept o_isKept o_tastedFrom o_tastedTo o_order o_spots o_gains o_value v_thrown v_textSize v_place v_jars v_readPlaces v_readJars v_acts v_tasted v_seed y_some y_rowMany y_rowWay v_stuffWhich v_stuffNear v_keptMany v_keptFirst v_restMany v_restFirst f_kind f_page y_trial y_order y_spots) → va_S A s.heap H locs → W p l e rm_X8_findRow s m (([Value.ref o] : List Value).toArray) below meth c H locs 0 0 Q (F0 m 16 ls [.int t1, .ref o]) := by
    intro x1 t1 y_some y_rowMany y_rowWay y_trial y_order y_spots H locs ls hf hl hP hD hS
    unfold x8_findRow_b16 at hf
    refine va_put (D := (dC, dI)) (ci := 8) (v := .int t1) (ty := .int) (C := RX8) (T := TX8) (N := 33) hx hb hts hiX8 tyX8 tyX8_ok nmX8 hown hK hP hD hS 0 rfl rfl 23 (by decide) (hts (.fieldLink RX8 190 "GreenJarsModel" "rowMany" "I") (by decide +kernel)) (fun _ h9 => h9) rfl (by decide +kernel) rfl rfl (Nat.le_of_ble_eq_true rfl) dX8_findRow_16 (fun H locs hP hD hS => ?_)
    have hP : va_P (dC, dI) vwCl (w_X8_findRow cI cZ cG o o_text o_kind o_size o_readJar o_page o_trial o_book o_kept o_isKept o_tastedFrom o_tastedTo o_order o_spots o_gains o_value v_thrown v_textSize v_place v_jars v_readPlaces v_readJars v_acts v_tasted v_seed y_some t1 y_rowWay v_stuffWhich v_stuffNear v_keptMany v_keptFirst v_restMany v_restFirst f_kind f_page y_trial y_order y_spots) H := hP
    have hD : va_D A (w_X8_findRow cI cZ cG o o_text o_kind o_size o_readJar o_page o_trial o_book o_kept o_isKept o_tastedFrom o_tastedTo o_order o_spots o_gains o_value v_thrown v_textSize v_place v_jars v_readPlaces v_readJars v_acts v_tasted v_seed y_some t1 y_rowWay v_stuffWhich v_stuffNear v_keptMany v_keptFirst v_restMany v_restFirst f_kind f_page y_trial y_order y_spots) := hD
    refine lv_aload_n hx hb dX8_findRow_19 rfl (lv_at hl 0 rfl) ?_
    refine lv_iconst (v := (0 : Int32)) hx hb dX8_findRow_20 (by decide) ?_
    refine va_put (D := (dC, dI)) (ci := 8) (v := .int (0 : Int32)) (ty := .int) (C := RX8) (T := TX8) (N := 33) hx hb hts hiX8 tyX8 tyX8_ok nmX8 hown hK hP hD hS 0 rfl rfl 24 (by decide) (hts (.fieldLink RX8 193 "GreenJarsModel" "rowWay" "I") (by decide +kernel)) (fun _ h9 => h9) rfl (by decide +kernel) rfl rfl (Nat.le_of_ble_eq_true rfl) dX8_findRow_21 (fun H locs hP hD hS => ?_)
    have hP : va_P (dC, dI) vwCl (w_X8_findRow cI cZ cG o o_text o_kind o_size o_readJar o_page o_trial o_book o_kept o_isKept o_tastedFrom o_tastedTo o_order o_spots o_gains o_value v_thrown v_textSize v_place v_jars v_readPlaces v_readJars v_acts v_tasted v_seed y_some t1 (0 : Int32) v_stuffWhich v_stuffNear v_keptMany v_keptFirst v_restMany v_restFirst f_kind f_page y_trial y_order y_spots) H := hP
    have hD : va_D A (w_X8_findRow cI cZ cG o o_text o_kind o_size o_readJar o_page o_trial o_book o_kept o_isKept o_tastedFrom o_tastedTo o_order o_spots o_gains o_value v_thrown v_textSize v_place v_jars v_readPlaces v_readJars v_acts v_tasted v_seed y_some t1 (0 : Int32) v_stuffWhich v_stuffNear v_keptMany v_keptFirst v_restMany v_restFirst f_kind f_page y_trial y_order y_spots) := hD
    refine lv_iload_n hx hb dX8_findRow_24 rfl (lv_at hl 1 rfl) ?_
    refine lv_if_le (tgt := 32) hx hb dX8_findRow_25 (by decide) (fun c17 => ?_) (fun c17 => ?_)
    · have hf := g_pos c17 hf
      refine lv_iconst (v := (0 : Int32)) hx hb dX8_findRow_32 (by decide) ?_
      refine lv_istore_n (lv' := [(2, .int (0 : Int32)), (0, .ref o), (1, .int x1)]) hx hb dX8_findRow_33 rfl hl (by decide) rfl (fun ls hl => ?_)
      exact L34 N x1 (0 : Int32) y_some t1 (0 : Int32) y_trial y_order y_spots H locs ls hf (lv_sub hl [1, 2, 0] rfl) hP hD hS
    · have hf := g_neg c17 hf
      refine lv_iconst (v := (1 : Int32)) hx hb dX8_findRow_28 (by decide) ?_
      refine lv_goto (tgt := 33) hx hb dX8_findRow_29 (by decide) ?_
      refine lv_istore_n (lv' := [(2, .int (1 : Int32)), (0, .ref o), (1, .int x1)]) hx hb dX8_findRow_33 rfl hl (by decide) rfl (fun ls hl => ?_)
      exact L34 N x1 (1 : Int32) y_some t1 (0 : Int32) y_trial y_order y_spots H locs ls hf (lv_sub hl [1, 2, 0] rfl) hP hD hS
  unfold x8_findRow at hf
  refine lv_aload_n hx hb dX8_findRow_0 rfl (lv_at hl 0 rfl) ?_
  obtain ⟨r18, y19, y20, hc21, hf⟩ := g_b3 hf
  refine g_wV (As := []) (rest := []) (wr := [(o_kind, .inl (cI, 6, .inl f_kind)), (o_trial, .inl (cI, 37, .inl f_trial))]) (wn := (w_X8_findRow cI cZ cG o o_text o_kind o_size o_readJar o_page o_trial o_book o_kept o_isKept o_tastedFrom o_tastedTo o_order o_spots o_gains o_value v_thrown v_textSize v_place v_jars v_readPlaces v_readJars v_acts v_tasted v_seed v_some v_rowMany v_rowWay v_stuffWhich v_stuffNear v_keptMany v_keptFirst v_restMany v_restFirst f_kind f_page f_trial y19 y20)) ⟨hx, hb, hml, hown, hts⟩ (c_X8_laySpots l dC dI cI cZ cG o o_text o_kind o_size o_readJar o_page o_trial o_book o_kept o_isKept o_tastedFrom o_tastedTo o_order o_spots o_gains o_value H.size  v_thrown v_textSize v_place v_jars v_readPlaces v_readJars v_acts v_tasted v_seed v_some v_rowMany v_rowWay v_stuffWhich v_stuffNear v_keptMany v_keptFirst v_restMany v_restFirst f_page f_order f_spots hc21) (cwV 0 hts gX8_findRow_X8_laySpots rfl rfl rfl (by decide +kernel) ⟨Nat.le_of_ble_eq_true rfl, Nat.le_of_ble_eq_true rfl⟩) hK hN hP hD hS hA [0, 2, 4, 5] [1, 3] [2, 0, 3, 1, 4, 5] rfl rfl (by decide) rfl (by decide) (by decide) rfl (by decide) (va_recv hK hP (ci := 8) (q0 := 0) rfl rfl) rfl hl.1 rfl (Nat.le_of_ble_eq_true rfl) dX8_findRow_1 ⟨Nat.zero_le _, Nat.zero_le _⟩ (fun H locs hP hD hS => ?_)
  refine lv_istore_n (lv' := [(1, .int r18), (0, .ref o)]) hx hb dX8_findRow_4 rfl hl (by decide) rfl (fun ls hl => ?_)
  refine lv_aload_n hx hb dX8_findRow_5 rfl (lv_at hl 1 rfl) ?_
  refine lv_iload_n hx hb dX8_findRow_6 rfl (lv_at hl 0 rfl) ?_
  refine lv_if_ne (tgt := 14) hx hb dX8_findRow_7 (by decide) (fun c22 => ?_) (fun c22 => ?_)
  · have hf := g_neg c22 hf
    refine lv_bipush (v := (-9 : Int32)) hx hb dX8_findRow_14 (by decide +kernel) ?_
    exact J16 r18 (-9 : Int32) v_some v_rowMany v_rowWay f_trial y19 y20 H locs ls hf (lv_sub hl [1, 0] rfl) hP hD hS
  · have hf := g_pos c22 hf
    refine lv_iconst (v := (0 : Int32)) hx hb dX8_findRow_10 (by decide) ?_
    refine lv_goto (tgt := 16) hx hb dX8_findRow_11 (by decide) ?_
    exact J16 r18 (0 : Int32) v_some v_rowMany v_rowWay f_trial y19 y20 H locs ls hf (lv_sub hl [1, 0] rfl) hP hD hS
abbrev rm_X8_row : Room := { frames := 6, cells := 0, slots := 0, locals := 142 }
abbrev w_X8_row (cI cZ cG : ClassId) (o : Nat) (o_text : Nat) (o_kind : Nat) (o_size : Nat) (o_readJar : Nat) (o_page : Nat) (o_trial : Nat) (o_book : Nat) (o_kept : Nat) (o_isKept : Nat) (o_tastedFrom : Nat) (o_tastedTo : Nat) (o_order : Nat) (o_spots : Nat) (o_gains : Nat) (o_value : Nat) (v_thrown : Int32) (v_textSize : Int32) (v_place : Int32) (v_jars : Int32) (v_readPlaces : Int32) (v_readJars : Int32) (v_acts : Int32) (v_tasted : Int32) (v_seed : Int64) (v_some : Int32) (v_rowMany : Int32) (v_rowWay : Int32) (v_stuffWhich : Int32) (v_stuffNear : Int32) (v_keptMany : Int32) (v_keptFirst : Int32) (v_restMany : Int32) (v_restFirst : Int32) (f_kind : Nat → Int32) (f_page : Nat → Int32) (f_trial : Nat → Int32) (f_order : Nat → Int32) (f_spots : Nat → Int32) : va_W := [(o, .inr (8, [.int v_thrown, .ref o_text, .int v_textSize, .int v_place, .int v_jars, .ref o_kind, .ref o_size, .int v_readPlaces, .int v_readJars, .ref o_readJar, .ref o_page, .ref o_trial, .ref o_book, .int v_acts, .ref o_kept, .ref o_isKept, .int v_tasted, .ref o_tastedFrom, .ref o_tastedTo, .long v_seed, .int v_some, .ref o_order, .ref o_spots, .int v_rowMany, .int v_rowWay, .int v_stuffWhich, .int v_stuffNear, .int v_keptMany, .int v_keptFirst, .int v_restMany, .int v_restFirst, .ref o_gains, .ref o_value])), (o_kind, .inl (cI, 6, .inl f_kind)), (o_page, .inl (cI, 37, .inl f_page)), (o_trial, .inl (cI, 37, .inl f_trial)), (o_order, .inl (cI, 6, .inl f_order)), (o_spots, .inl (cI, 6, .inl f_spots))]
set_option maxHeartbeats 4000000 in
set_option maxRecDepth 100000 in
theorem c_X8_row (l : Launch) (dC : Nat → ClassId) (dI : Nat → Nat → Nat) (cI cZ cG : ClassId) {N : Nat} (o : Nat) (o_text : Nat) (o_kind : Nat) (o_size : Nat) (o_readJar : Nat) (o_page : Nat) (o_trial : Nat) (o_book : Nat) (o_kept : Nat) (o_isKept : Nat) (o_tastedFrom : Nat) (o_tastedTo : Nat) (o_order : Nat) (o_spots : Nat) (o_gains : Nat) (o_value : Nat) (sz : Nat) (v_thrown : Int32) (v_textSize : Int32) (v_place : Int32) (v_jars : Int32) (v_readPlaces : Int32) (v_readJars : Int32) (v_acts : Int32) (v_tasted : Int32) (v_seed : Int64) (v_some : Int32) (v_rowMany : Int32) (v_rowWay : Int32) (v_stuffWhich : Int32) (v_stuffNear : Int32) (v_keptMany : Int32) (v_keptFirst : Int32) (v_restMany : Int32) (v_restFirst : Int32) (f_kind : Nat → Int32) (f_page : Nat → Int32) (f_trial : Nat → Int32) (f_order : Nat → Int32) (f_spots : Nat → Int32) (a1 : Int32) {r0 : Int32} {n_thrown : Int32} {n_some : Int32} {n_rowMany : Int32} {n_rowWay : Int32} {n_trial : Nat → Int32} {n_order : Nat → Int32} {n_spots : Nat → Int32} (hf : x8_row N v_thrown v_jars v_some v_rowMany v_rowWay f_kind f_page f_trial f_order f_spots a1 = some (r0, n_thrown, n_some, n_rowMany, n_rowWay, n_trial, n_order, n_spots)) : Met l yX8_row wsX8_row rm_X8_row (va_Pc [.ref o, .int a1] (gW (dC, dI) vwCl (gT cI cZ cG) (w_X8_row cI cZ cG o o_text o_kind o_size o_readJar o_page o_trial o_book o_kept o_isKept o_tastedFrom o_tastedTo o_order o_spots o_gains o_value v_thrown v_textSize v_place v_jars v_readPlaces v_readJars v_acts v_tasted v_seed v_some v_rowMany v_rowWay v_stuffWhich v_stuffNear v_keptMany v_keptFirst v_restMany v_restFirst f_kind f_page f_trial f_order f_spots) sz)) (va_Qi (fun r _ => r = r0) (gE (dC, dI) vwCl (gT cI cZ cG) (w_X8_row cI cZ cG o o_text o_kind o_size o_readJar o_page o_trial o_book o_kept o_isKept o_tastedFrom o_tastedTo o_order o_spots o_gains o_value n_thrown v_textSize v_place v_jars v_readPlaces v_readJars v_acts v_tasted v_seed n_some n_rowMany n_rowWay v_stuffWhich v_stuffNear v_keptMany v_keptFirst v_restMany v_restFirst f_kind f_page n_trial n_order n_spots) (va_A (w_X8_row cI cZ cG o o_text o_kind o_size o_readJar o_page o_trial o_book o_kept o_isKept o_tastedFrom o_tastedTo o_order o_spots o_gains o_value v_thrown v_textSize v_place v_jars v_readPlaces v_readJars v_acts v_tasted v_seed v_some v_rowMany v_rowWay v_stuffWhich v_stuffNear v_keptMany v_keptFirst v_restMany v_restFirst f_kind f_page f_trial f_order f_spots) sz)) (va_A (w_X8_row cI cZ cG o o_text o_kind o_size o_readJar o_page o_trial o_book o_kept o_isKept o_tastedFrom o_tastedTo o_order o_spots o_gains o_value v_thrown v_textSize v_place v_jars v_readPlaces v_readJars v_acts v_tasted v_seed v_some v_rowMany v_rowWay v_stuffWhich v_stuffNear v_keptMany v_keptFirst v_restMany v_restFirst f_kind f_page f_trial f_order f_spots) sz)) 0 0 (va_A (w_X8_row cI cZ cG o o_text o_kind o_size o_readJar o_page o_trial o_book o_kept o_isKept o_tastedFrom o_tastedTo o_order o_spots o_gains o_value v_thrown v_textSize v_place v_jars v_readPlaces v_readJars v_acts v_tasted v_seed v_some v_rowMany v_rowWay v_stuffWhich v_stuffNear v_keptMany v_keptFirst v_restMany v_restFirst f_kind f_page f_trial f_order f_spots) sz) := by
  refine Met.ofW (cc := cX8_row) (maxL := 2) (ret := (some .int)) (by decide) rfl ?_
  intro p e s m args below meth c s₁ B hml hv
  obtain ⟨rfl, hv⟩ := hv
  obtain ⟨hsz, hP, hK, hN, hD0⟩ := hv
  have hx := B.exec
  have hb := B.bytes
  have hr := B.returns
  have hts := atoms_spec (ws := wsX8_row) B.pre
  have hown : s.vm.findClass RX8 = some m.cls := findClass_of_methodNamed B.named
  have hlocks := B.notSynchronized
  have hiX8 : ∀ w ∈ u_ws RX8 TX8 33, w ∈ wsX8_row := fun w h => List.mem_cons_of_mem _ (List.mem_append_right _ h)
  subst hsz
  have hD := hD0.self (sz := s.heap.size)
  generalize hAe : va_A (w_X8_row cI cZ cG o o_text o_kind o_size o_readJar o_page o_trial o_book o_kept o_isKept o_tastedFrom o_tastedTo o_order o_spots o_gains o_value v_thrown v_textSize v_place v_jars v_readPlaces v_readJars v_acts v_tasted v_seed v_some v_rowMany v_rowWay v_stuffWhich v_stuffNear v_keptMany v_keptFirst v_restMany v_restFirst f_kind f_page f_trial f_order f_spots) s.heap.size = A at hD ⊢
  have hA : ∀ q : Nat, s.heap.size ≤ q → A q := fun q h => by rw [← hAe]; exact Or.inr h
  clear hD0
  have hS : va_S A s.heap s.heap [] := va_S.rf
  have hP : va_P (dC, dI) vwCl (w_X8_row cI cZ cG o o_text o_kind o_size o_readJar o_page o_trial o_book o_kept o_isKept o_tastedFrom o_tastedTo o_order o_spots o_gains o_value v_thrown v_textSize v_place v_jars v_readPlaces v_readJars v_acts v_tasted v_seed v_some v_rowMany v_rowWay v_stuffWhich v_stuffNear v_keptMany v_keptFirst v_restMany v_restFirst f_kind f_page f_trial f_order f_spots) s.heap := hP
  obtain ⟨Q, hQ⟩ : ∃ Q : State → Prop, Q = MQ below (va_Qi (fun r _ => r = r0) (gE (dC, dI) vwCl (gT cI cZ cG) (w_X8_row cI cZ cG o o_text o_kind o_size o_readJar o_page o_trial o_book o_kept o_isKept o_tastedFrom o_tastedTo o_order o_spots o_gains o_value n_thrown v_textSize v_place v_jars v_readPlaces v_readJars v_acts v_tasted v_seed n_some n_rowMany n_rowWay v_stuffWhich v_stuffNear v_keptMany v_keptFirst v_restMany v_restFirst f_kind f_page n_trial n_order n_spots) A) A) (([Value.ref o, Value.int a1] : List Value).toArray) s 0 0 A := ⟨_, rfl⟩
  have hl := lv_entry ([.ref o, .int a1]) (n := 2) (Nat.le_of_ble_eq_true rfl)
  rw [← hQ, lg_entry_eq]
  generalize (lg_sl ([.ref o, .int a1]) ++ List.replicate (2 - (lg_sl ([.ref o, .int a1])).length) Slot.unset).toArray = ls at hl ⊢
  have hl : lv_has ls 2 [(0, .ref o), (1, .int a1)] := hl
  generalize hH : s.heap = H at hP hS ⊢
  have hS : va_S A s.heap H [] := by rw [hH]; exact hS
  generalize hlc : ([] : List Loc) = locs at hS ⊢
  show W p l e rm_X8_row s m (([Value.ref o, Value.int a1] : List Value).toArray) below meth c H locs 0 0 Q (F0 m 0 ls [])
  unfold x8_row at hf
  refine lv_aload_n hx hb dX8_row_0 rfl (lv_at hl 0 rfl) ?_
  refine lv_iconst (v := (0 : Int32)) hx hb dX8_row_1 (by decide) ?_
  refine va_put (D := (dC, dI)) (ci := 8) (v := .int (0 : Int32)) (ty := .int) (C := RX8) (T := TX8) (N := 33) hx hb hts hiX8 tyX8 tyX8_ok nmX8 hown hK hP hD hS 0 rfl rfl 0 (by decide) (hts (.fieldLink RX8 56 "GreenJarsModel" "thrown" "I") (by decide +kernel)) (fun _ h9 => h9) rfl (by decide +kernel) rfl rfl (Nat.le_of_ble_eq_true rfl) dX8_row_2 (fun H locs hP hD hS => ?_)
  have hP : va_P (dC, dI) vwCl (w_X8_row cI cZ cG o o_text o_kind o_size o_readJar o_page o_trial o_book o_kept o_isKept o_tastedFrom o_tastedTo o_order o_spots o_gains o_value (0 : Int32) v_textSize v_place v_jars v_readPlaces v_readJars v_acts v_tasted v_seed v_some v_rowMany v_rowWay v_stuffWhich v_stuffNear v_keptMany v_keptFirst v_restMany v_restFirst f_kind f_page f_trial f_order f_spots) H := hP
  have hD : va_D A (w_X8_row cI cZ cG o o_text o_kind o_size o_readJar o_page o_trial o_book o_kept o_isKept o_tastedFrom o_tastedTo o_order o_spots o_gains o_value (0 : Int32) v_textSize v_place v_jars v_readPlaces v_readJars v_acts v_tasted v_seed v_some v_rowMany v_rowWay v_stuffWhich v_stuffNear v_keptMany v_keptFirst v_restMany v_restFirst f_kind f_page f_trial f_order f_spots) := hD
  refine lv_aload_n hx hb dX8_row_5 rfl (lv_at hl 0 rfl) ?_
  obtain ⟨y1, y2, y3, y4, y5, y6, hc7, hf⟩ := g_b6 hf
  refine g_wVv (As := []) (rest := []) (wr := []) (wn := (w_X8_row cI cZ cG o o_text o_kind o_size o_readJar o_page o_trial o_book o_kept o_isKept o_tastedFrom o_tastedTo o_order o_spots o_gains o_value (0 : Int32) v_textSize v_place v_jars v_readPlaces v_readJars v_acts v_tasted v_seed y1 y2 y3 v_stuffWhich v_stuffNear v_keptMany v_keptFirst v_restMany v_restFirst f_kind f_page y4 y5 y6)) ⟨hx, hb, hml, hown, hts⟩ (c_X8_findRow l dC dI cI cZ cG o o_text o_kind o_size o_readJar o_page o_trial o_book o_kept o_isKept o_tastedFrom o_tastedTo o_order o_spots o_gains o_value H.size  (0 : Int32) v_textSize v_place v_jars v_readPlaces v_readJars v_acts v_tasted v_seed v_some v_rowMany v_rowWay v_stuffWhich v_stuffNear v_keptMany v_keptFirst v_restMany v_restFirst f_kind f_page f_trial f_order f_spots hc7) (cwV 0 hts gX8_row_X8_findRow rfl rfl rfl (by decide +kernel) ⟨Nat.le_of_ble_eq_true rfl, Nat.le_of_ble_eq_true rfl⟩) hK hN hP hD hS hA [0, 1, 2, 3, 4, 5] [] [0, 1, 2, 3, 4, 5] rfl rfl (by decide) rfl (by decide) (by decide) rfl (by decide) (va_recv hK hP (ci := 8) (q0 := 0) rfl rfl) rfl hl.1 rfl (Nat.le_of_ble_eq_true rfl) dX8_row_6 ⟨Nat.zero_le _, Nat.zero_le _⟩ (fun H locs hP hD hS => ?_)
  refine lv_iload_n hx hb dX8_row_9 rfl (lv_at hl 1 rfl) ?_
  refine lv_if_eq (tgt := 20) hx hb dX8_row_10 (by decide) (fun c8 => ?_) (fun c8 => ?_)
  · have hf := g_pos c8 hf
    refine lv_aload_n hx hb dX8_row_20 rfl (lv_at hl 0 rfl) ?_
    refine va_get (D := (dC, dI)) (ci := 8) (v := .int y2) (C := RX8) (T := TX8) (N := 33) hx hb hts hiX8 hown hK hP 0 rfl rfl 23 (by decide) (hts (.fieldLink RX8 190 "GreenJarsModel" "rowMany" "I") (by decide +kernel)) (fun _ h9 => h9) rfl dX8_row_21 ?_
    rw [hQ]
    cases hf
    exact W.iret hx hb hr (fun t ht hW => ⟨⟨_, (), rfl, rfl, by rw [ht]; exact hP, va_K.moved hW.alike hK, hD⟩, hS.F ht⟩) hS.2.2 dX8_row_24
  · have hf := g_neg c8 hf
    refine lv_aload_n hx hb dX8_row_13 rfl (lv_at hl 0 rfl) ?_
    refine va_get (D := (dC, dI)) (ci := 8) (v := .int y3) (C := RX8) (T := TX8) (N := 33) hx hb hts hiX8 hown hK hP 0 rfl rfl 24 (by decide) (hts (.fieldLink RX8 193 "GreenJarsModel" "rowWay" "I") (by decide +kernel)) (fun _ h9 => h9) rfl dX8_row_14 ?_
    refine lv_goto (tgt := 24) hx hb dX8_row_17 (by decide) ?_
    rw [hQ]
    cases hf
    exact W.iret hx hb hr (fun t ht hW => ⟨⟨_, (), rfl, rfl, by rw [ht]; exact hP, va_K.moved hW.alike hK, hD⟩, hS.F ht⟩) hS.2.2 dX8_row_24
abbrev rm_X8_longPower : Room := { frames := 0, cells := 0, slots := 0, locals := 0 }
abbrev w_X8_longPower (cI cZ cG : ClassId) : va_W := []
set_option maxHeartbeats 4000000 in
set_option maxRecDepth 100000 in
theorem c_X8_longPower (l : Launch) (dC : Nat → ClassId) (dI : Nat → Nat → Nat) (cI cZ cG : ClassId) {N : Nat} (a0 : Int64) (a2 : Int32) {r0 : Int64} (hf : x8_longPower N a0 a2 = some r0) : Met l yX8_longPower wsX8_longPower rm_X8_longPower (va_Pc [.long a0, .int a2] (gR (dC, dI) vwCl (gT cI cZ cG) (w_X8_longPower cI cZ cG))) (vp_Sl (fun r => r = r0)) 0 0 (fun _ => False) := by
  refine Met.ofW (cc := cX8_longPower) (maxL := 6) (ret := (some .long)) (by decide) rfl ?_
  intro p e s m args below meth c s₁ B hml hv
  obtain ⟨rfl, hv⟩ := hv
  obtain ⟨hP, hK, hN⟩ := hv
  have hx := B.exec
  have hb := B.bytes
  have hr := B.returns
  have hts := atoms_spec (ws := wsX8_longPower) B.pre
  have hown : s.vm.findClass RX8 = some m.cls := findClass_of_methodNamed B.named
  have hlocks := B.notSynchronized
  obtain ⟨Q, hQ⟩ : ∃ Q : State → Prop, Q = MQ below (vp_Sl (fun r => r = r0)) (([Value.long a0, Value.int a2] : List Value).toArray) s 0 0 (fun _ => False) := ⟨_, rfl⟩
  have hl := lv_entry ([.long a0, .int a2]) (n := 6) (Nat.le_of_ble_eq_true rfl)
  rw [← hQ, lg_entry_eq]
  generalize (lg_sl ([.long a0, .int a2]) ++ List.replicate (6 - (lg_sl ([.long a0, .int a2])).length) Slot.unset).toArray = ls at hl ⊢
  have hl : lv_has ls 6 [(0, .long a0), (2, .int a2)] := hl
  show W p l e rm_X8_longPower s m (([Value.long a0, Value.int a2] : List Value).toArray) below meth c s.heap [] 0 0 Q (F0 m 0 ls [])
  have L5 : ∀ (n5 : Nat), ∀ (x3 : Int64) (x5 : Int32) (ls : Array Slot), x8_longPower_b5 N a0 a2 n5 x3 x5 = some r0 → lv_has ls 6 [(0, .long a0), (2, .int a2), (3, .long x3), (5, .int x5)] → W p l e rm_X8_longPower s m (([Value.long a0, Value.int a2] : List Value).toArray) below meth c s.heap [] 0 0 Q (F0 m 5 ls []) := by
    intro n5
    induction n5 with
    | zero =>
      intro x3 x5 ls hf hl
      exact g_no hf
    | succ n5 ih5 =>
      intro x3 x5 ls hf hl
      unfold x8_longPower_b5 at hf
      refine lv_iload hx hb dX8_longPower_5 (lv_at hl 3 rfl) ?_
      refine lv_iload_n hx hb dX8_longPower_7 rfl (lv_at hl 1 rfl) ?_
      refine lv_icmp_ge (tgt := 21) hx hb dX8_longPower_8 (by decide) (fun c1 => ?_) (fun c1 => ?_)
      · have hf := g_pos c1 hf
        refine lv_lload_n hx hb dX8_longPower_21 rfl (lv_at hl 2 rfl) ?_
        rw [hQ]
        exact W.lret (v := x3) hx hb hr (fun t ht hW => ⟨_, rfl, Option.some.inj hf, ht⟩) (fun q h => by cases h) dX8_longPower_22
      · have hf := g_neg c1 hf
        refine lv_lload_n hx hb dX8_longPower_11 rfl (lv_at hl 2 rfl) ?_
        refine lv_lload_n hx hb dX8_longPower_12 rfl (lv_at hl 0 rfl) ?_
        refine lv_lmul hx hb dX8_longPower_13 ?_
        refine lv_lstore_n (lv' := [(3, .long (x3 * a0)), (0, .long a0), (2, .int a2), (5, .int x5)]) hx hb dX8_longPower_14 rfl hl (by decide) rfl (fun ls hl => ?_)
        refine lv_iinc (v := (x5 + (1 : Int32))) (lv' := [(5, .int (x5 + (1 : Int32))), (3, .long (x3 * a0)), (0, .long a0), (2, .int a2)]) hx hb dX8_longPower_15 hl (k := 3) rfl rfl (by decide) rfl (fun ls hl => ?_)
        refine lv_goto (tgt := 5) hx hb dX8_longPower_18 (by decide) ?_
        exact ih5 (x3 * a0) (x5 + (1 : Int32)) ls hf (lv_sub hl [2, 3, 1, 0] rfl)
  unfold x8_longPower at hf
  refine lv_lconst (v := (1 : Int64)) hx hb dX8_longPower_0 (by decide) ?_
  refine lv_lstore_n (lv' := [(3, .long (1 : Int64)), (0, .long a0), (2, .int a2)]) hx hb dX8_longPower_1 rfl hl (by decide) rfl (fun ls hl => ?_)
  refine lv_iconst (v := (0 : Int32)) hx hb dX8_longPower_2 (by decide) ?_
  refine lv_istore (lv' := [(5, .int (0 : Int32)), (3, .long (1 : Int64)), (0, .long a0), (2, .int a2)]) hx hb dX8_longPower_3 hl (by decide) rfl (fun ls hl => ?_)
  exact L5 N (1 : Int64) (0 : Int32) ls hf (lv_sub hl [2, 3, 1, 0] rfl)
abbrev rm_X8_doesTo : Room := { frames := 4, cells := 0, slots := 0, locals := 94 }
abbrev w_X8_doesTo (cI cZ cG : ClassId) (o : Nat) (o_text : Nat) (o_kind : Nat) (o_size : Nat) (o_readJar : Nat) (o_page : Nat) (o_trial : Nat) (o_book : Nat) (o_kept : Nat) (o_isKept : Nat) (o_tastedFrom : Nat) (o_tastedTo : Nat) (o_order : Nat) (o_spots : Nat) (o_gains : Nat) (o_value : Nat) (v_thrown : Int32) (v_textSize : Int32) (v_place : Int32) (v_jars : Int32) (v_readPlaces : Int32) (v_readJars : Int32) (v_acts : Int32) (v_tasted : Int32) (v_seed : Int64) (v_some : Int32) (v_rowMany : Int32) (v_rowWay : Int32) (v_stuffWhich : Int32) (v_stuffNear : Int32) (v_keptMany : Int32) (v_keptFirst : Int32) (v_restMany : Int32) (v_restFirst : Int32) (f_kind : Nat → Int32) (f_trial : Nat → Int32) : va_W := [(o, .inr (8, [.int v_thrown, .ref o_text, .int v_textSize, .int v_place, .int v_jars, .ref o_kind, .ref o_size, .int v_readPlaces, .int v_readJars, .ref o_readJar, .ref o_page, .ref o_trial, .ref o_book, .int v_acts, .ref o_kept, .ref o_isKept, .int v_tasted, .ref o_tastedFrom, .ref o_tastedTo, .long v_seed, .int v_some, .ref o_order, .ref o_spots, .int v_rowMany, .int v_rowWay, .int v_stuffWhich, .int v_stuffNear, .int v_keptMany, .int v_keptFirst, .int v_restMany, .int v_restFirst, .ref o_gains, .ref o_value])), (o_kind, .inl (cI, 6, .inl f_kind)), (o_trial, .inl (cI, 37, .inl f_trial))]
set_option maxHeartbeats 4000000 in
set_option maxRecDepth 100000 in
theorem c_X8_doesTo (l : Launch) (dC : Nat → ClassId) (dI : Nat → Nat → Nat) (cI cZ cG : ClassId) {N : Nat} (o : Nat) (o_text : Nat) (o_kind : Nat) (o_size : Nat) (o_readJar : Nat) (o_page : Nat) (o_trial : Nat) (o_book : Nat) (o_kept : Nat) (o_isKept : Nat) (o_tastedFrom : Nat) (o_tastedTo : Nat) (o_order : Nat) (o_spots : Nat) (o_gains : Nat) (o_value : Nat) (sz : Nat) (v_thrown : Int32) (v_textSize : Int32) (v_place : Int32) (v_jars : Int32) (v_readPlaces : Int32) (v_readJars : Int32) (v_acts : Int32) (v_tasted : Int32) (v_seed : Int64) (v_some : Int32) (v_rowMany : Int32) (v_rowWay : Int32) (v_stuffWhich : Int32) (v_stuffNear : Int32) (v_keptMany : Int32) (v_keptFirst : Int32) (v_restMany : Int32) (v_restFirst : Int32) (f_kind : Nat → Int32) (f_trial : Nat → Int32) (a1 : Int32) (a2 : Int32) (a3 : Int32) {r0 : Int32} {n_trial : Nat → Int32} (hf : x8_doesTo N v_jars v_some f_kind f_trial a1 a2 a3 = some (r0, n_trial)) : Met l yX8_doesTo wsX8_doesTo rm_X8_doesTo (va_Pc [.ref o, .int a1, .int a2, .int a3] (gW (dC, dI) vwCl (gT cI cZ cG) (w_X8_doesTo cI cZ cG o o_text o_kind o_size o_readJar o_page o_trial o_book o_kept o_isKept o_tastedFrom o_tastedTo o_order o_spots o_gains o_value v_thrown v_textSize v_place v_jars v_readPlaces v_readJars v_acts v_tasted v_seed v_some v_rowMany v_rowWay v_stuffWhich v_stuffNear v_keptMany v_keptFirst v_restMany v_restFirst f_kind f_trial) sz)) (va_Qi (fun r _ => r = r0) (gE (dC, dI) vwCl (gT cI cZ cG) (w_X8_doesTo cI cZ cG o o_text o_kind o_size o_readJar o_page o_trial o_book o_kept o_isKept o_tastedFrom o_tastedTo o_order o_spots o_gains o_value v_thrown v_textSize v_place v_jars v_readPlaces v_readJars v_acts v_tasted v_seed v_some v_rowMany v_rowWay v_stuffWhich v_stuffNear v_keptMany v_keptFirst v_restMany v_restFirst f_kind n_trial) (va_A (w_X8_doesTo cI cZ cG o o_text o_kind o_size o_readJar o_page o_trial o_book o_kept o_isKept o_tastedFrom o_tastedTo o_order o_spots o_gains o_value v_thrown v_textSize v_place v_jars v_readPlaces v_readJars v_acts v_tasted v_seed v_some v_rowMany v_rowWay v_stuffWhich v_stuffNear v_keptMany v_keptFirst v_restMany v_restFirst f_kind f_trial) sz)) (va_A (w_X8_doesTo cI cZ cG o o_text o_kind o_size o_readJar o_page o_trial o_book o_kept o_isKept o_tastedFrom o_tastedTo o_order o_spots o_gains o_value v_thrown v_textSize v_place v_jars v_readPlaces v_readJars v_acts v_tasted v_seed v_some v_rowMany v_rowWay v_stuffWhich v_stuffNear v_keptMany v_keptFirst v_restMany v_restFirst f_kind f_trial) sz)) 0 0 (va_A (w_X8_doesTo cI cZ cG o o_text o_kind o_size o_readJar o_page o_trial o_book o_kept o_isKept o_tastedFrom o_tastedTo o_order o_spots o_gains o_value v_thrown v_textSize v_place v_jars v_readPlaces v_readJars v_acts v_tasted v_seed v_some v_rowMany v_rowWay v_stuffWhich v_stuffNear v_keptMany v_keptFirst v_restMany v_restFirst f_kind f_trial) sz) := by
  refine Met.ofW (cc := cX8_doesTo) (maxL := 4) (ret := (some .boolean)) (by decide) rfl ?_
  intro p e s m args below meth c s₁ B hml hv
  obtain ⟨rfl, hv⟩ := hv
  obtain ⟨hsz, hP, hK, hN, hD0⟩ := hv
  have hx := B.exec
  have hb := B.bytes
  have hr := B.returns
  have hts := atoms_spec (ws := wsX8_doesTo) B.pre
  have hown : s.vm.findClass RX8 = some m.cls := findClass_of_methodNamed B.named
  have hlocks := B.notSynchronized
  have hiX8 : ∀ w ∈ u_ws RX8 TX8 33, w ∈ wsX8_doesTo := fun w h => List.mem_cons_of_mem _ (List.mem_append_right _ h)
  subst hsz
  have hD := hD0.self (sz := s.heap.size)
  generalize hAe : va_A (w_X8_doesTo cI cZ cG o o_text o_kind o_size o_readJar o_page o_trial o_book o_kept o_isKept o_tastedFrom o_tastedTo o_order o_spots o_gains o_value v_thrown v_textSize v_place v_jars v_readPlaces v_readJars v_acts v_tasted v_seed v_some v_rowMany v_rowWay v_stuffWhich v_stuffNear v_keptMany v_keptFirst v_restMany v_restFirst f_kind f_trial) s.heap.size = A at hD ⊢
  have hA : ∀ q : Nat, s.heap.size ≤ q → A q := fun q h => by rw [← hAe]; exact Or.inr h
  clear hD0
  have hS : va_S A s.heap s.heap [] := va_S.rf
  have hP : va_P (dC, dI) vwCl (w_X8_doesTo cI cZ cG o o_text o_kind o_size o_readJar o_page o_trial o_book o_kept o_isKept o_tastedFrom o_tastedTo o_order o_spots o_gains o_value v_thrown v_textSize v_place v_jars v_readPlaces v_readJars v_acts v_tasted v_seed v_some v_rowMany v_rowWay v_stuffWhich v_stuffNear v_keptMany v_keptFirst v_restMany v_restFirst f_kind f_trial) s.heap := hP
  obtain ⟨Q, hQ⟩ : ∃ Q : State → Prop, Q = MQ below (va_Qi (fun r _ => r = r0) (gE (dC, dI) vwCl (gT cI cZ cG) (w_X8_doesTo cI cZ cG o o_text o_kind o_size o_readJar o_page o_trial o_book o_kept o_isKept o_tastedFrom o_tastedTo o_order o_spots o_gains o_value v_thrown v_textSize v_place v_jars v_readPlaces v_readJars v_acts v_tasted v_seed v_some v_rowMany v_rowWay v_stuffWhich v_stuffNear v_keptMany v_keptFirst v_restMany v_restFirst f_kind n_trial) A) A) (([Value.ref o, Value.int a1, Value.int a2, Value.int a3] : List Value).toArray) s 0 0 A := ⟨_, rfl⟩
  have hl := lv_entry ([.ref o, .int a1, .int a2, .int a3]) (n := 4) (Nat.le_of_ble_eq_true rfl)
  rw [← hQ, lg_entry_eq]
  generalize (lg_sl ([.ref o, .int a1, .int a2, .int a3]) ++ List.replicate (4 - (lg_sl ([.ref o, .int a1, .int a2, .int a3])).length) Slot.unset).toArray = ls at hl ⊢
  have hl : lv_has ls 4 [(0, .ref o), (1, .int a1), (2, .int a2), (3, .int a3)] := hl
  generalize hH : s.heap = H at hP hS ⊢
  have hS : va_S A s.heap H [] := by rw [hH]; exact hS
  generalize hlc : ([] : List Loc) = locs at hS ⊢
  show W p l e rm_X8_doesTo s m (([Value.ref o, Value.int a1, Value.int a2, Value.int a3] : List Value).toArray) below meth c H locs 0 0 Q (F0 m 0 ls [])
  have J66 : ∀ (y_trial : Nat → Int32) (H : Heap) (locs : List Loc) (ls : Array Slot), x8_doesTo_b66 N v_jars v_some f_kind a1 a2 a3 y_trial = some (r0, n_trial) → lv_has ls 4 [(0, .ref o), (1, .int a1), (2, .int a2), (3, .int a3)] → va_P (dC, dI) vwCl (w_X8_doesTo cI cZ cG o o_text o_kind o_size o_readJar o_page o_trial o_book o_kept o_isKept o_tastedFrom o_tastedTo o_order o_spots o_gains o_value v_thrown v_textSize v_place v_jars v_readPlaces v_readJars v_acts v_tasted v_seed v_some v_rowMany v_rowWay v_stuffWhich v_stuffNear v_keptMany v_keptFirst v_restMany v_restFirst f_kind y_trial) H → va_D A (w_X8_doesTo cI cZ cG o o_text o_kind o_size o_readJar o_page o_trial o_book o_kept o_isKept o_tastedFrom o_tastedTo o_order o_spots o_gains o_value v_thrown v_textSize v_place v_jars v_readPlaces v_readJars v_acts v_tasted v_seed v_some v_rowMany v_rowWay v_stuffWhich v_stuffNear v_keptMany v_keptFirst v_restMany v_restFirst f_kind y_trial) → va_S A s.heap H locs → W p l e rm_X8_doesTo s m (([Value.ref o, Value.int a1, Value.int a2, Value.int a3] : List Value).toArray) below meth c H locs 0 0 Q (F0 m 66 ls []) := by
    intro y_trial H locs ls hf hl hP hD hS
    unfold x8_doesTo_b66 at hf
    refine lv_iload_n hx hb dX8_doesTo_66 rfl (lv_at hl 1 rfl) ?_
    refine lv_iconst (v := (5 : Int32)) hx hb dX8_doesTo_67 (by decide) ?_
    refine lv_icmp_ne (tgt := 98) hx hb dX8_doesTo_68 (by decide) (fun c1 => ?_) (fun c1 => ?_)
    · have hf := g_neg c1 hf
      refine lv_iload_n hx hb dX8_doesTo_98 rfl (lv_at hl 1 rfl) ?_
      refine lv_bipush (v := (6 : Int32)) hx hb dX8_doesTo_99 (by decide +kernel) ?_
      refine lv_icmp_ne (tgt := 132) hx hb dX8_doesTo_101 (by decide) (fun c2 => ?_) (fun c2 => ?_)
      · have hf := g_neg c2 hf
        refine lv_iconst (v := (0 : Int32)) hx hb dX8_doesTo_132 (by decide) ?_
        rw [hQ]
        cases hf
        exact W.zret hx hb hr (by decide +kernel) (fun t ht hW => ⟨⟨_, (), rfl, rfl, by rw [ht]; exact hP, va_K.moved hW.alike hK, hD⟩, hS.F ht⟩) hS.2.2 dX8_doesTo_133
      · have hf := g_pos c2 hf
        refine lv_aload_n hx hb dX8_doesTo_104 rfl (lv_at hl 0 rfl) ?_
        refine va_get (D := (dC, dI)) (ci := 8) (v := .ref o_trial) (C := RX8) (T := TX8) (N := 33) hx hb hts hiX8 hown hK hP 0 rfl rfl 11 (by decide) (hts (.fieldLink RX8 25 "GreenJarsModel" "trial" "[I") (by decide +kernel)) (fun _ h9 => h9) rfl dX8_doesTo_105 ?_
        refine lv_iload_n hx hb dX8_doesTo_108 rfl (lv_at hl 2 rfl) ?_
        obtain ⟨r3, hc4, hf⟩ := g_b1 hf
        refine g_rS (As := [.ref o_trial, .int a2]) (rest := []) ⟨hx, hb, hml, hown, hts⟩ (c_X8_isWhole l dC dI cI cZ cG o_trial  y_trial a2 hc4) (va_cwS 2 hts gX8_doesTo_X8_isWhole rfl rfl rfl (by decide +kernel) ⟨Nat.le_of_ble_eq_true rfl, Nat.le_of_ble_eq_true rfl⟩) hK hN (hP.sub [2] rfl) rfl hl.1 rfl (Nat.le_of_ble_eq_true rfl) dX8_doesTo_109 ⟨Nat.zero_le _, Nat.zero_le _⟩ ?_
        refine lv_if_eq (tgt := 132) hx hb dX8_doesTo_112 (by decide) (fun c5 => ?_) (fun c5 => ?_)
        · have hf := g_pos c5 hf
          refine lv_iconst (v := (0 : Int32)) hx hb dX8_doesTo_132 (by decide) ?_
          rw [hQ]
          cases hf
          exact W.zret hx hb hr (by decide +kernel) (fun t ht hW => ⟨⟨_, (), rfl, rfl, by rw [ht]; exact hP, va_K.moved hW.alike hK, hD⟩, hS.F ht⟩) hS.2.2 dX8_doesTo_133
        · have hf := g_neg c5 hf
          refine lv_aload_n hx hb dX8_doesTo_115 rfl (lv_at hl 0 rfl) ?_
          refine va_get (D := (dC, dI)) (ci := 8) (v := .ref o_trial) (C := RX8) (T := TX8) (N := 33) hx hb hts hiX8 hown hK hP 0 rfl rfl 11 (by decide) (hts (.fieldLink RX8 25 "GreenJarsModel" "trial" "[I") (by decide +kernel)) (fun _ h9 => h9) rfl dX8_doesTo_116 ?_
          refine lv_bipush (v := (6 : Int32)) hx hb dX8_doesTo_119 (by decide +kernel) ?_
          refine lv_iload_n hx hb dX8_doesTo_121 rfl (lv_at hl 2 rfl) ?_
          refine lv_iadd hx hb dX8_doesTo_122 ?_
          obtain ⟨h6, hf⟩ := g_chk hf
          refine va_iald hx hb hK hP 2 0 rfl rfl (gIn_vp h6) dX8_doesTo_123 ?_
          refine lv_iload_n hx hb dX8_doesTo_124 rfl (lv_at hl 3 rfl) ?_
          refine lv_icmp_ne (tgt := 132) hx hb dX8_doesTo_125 (by decide) (fun c7 => ?_) (fun c7 => ?_)
          · have hf := g_neg c7 hf
            refine lv_iconst (v := (0 : Int32)) hx hb dX8_doesTo_132 (by decide) ?_
            rw [hQ]
            cases hf
            exact W.zret hx hb hr (by decide +kernel) (fun t ht hW => ⟨⟨_, (), rfl, rfl, by rw [ht]; exact hP, va_K.moved hW.alike hK, hD⟩, hS.F ht⟩) hS.2.2 dX8_doesTo_133
          · have hf := g_pos c7 hf
            refine lv_iconst (v := (1 : Int32)) hx hb dX8_doesTo_128 (by decide) ?_
            refine lv_goto (tgt := 133) hx hb dX8_doesTo_129 (by decide) ?_
            rw [hQ]
            cases hf
            exact W.zret hx hb hr (by decide +kernel) (fun t ht hW => ⟨⟨_, (), rfl, rfl, by rw [ht]; exact hP, va_K.moved hW.alike hK, hD⟩, hS.F ht⟩) hS.2.2 dX8_doesTo_133
    · have hf := g_pos c1 hf
      refine lv_iload_n hx hb dX8_doesTo_71 rfl (lv_at hl 3 rfl) ?_
      refine lv_aload_n hx hb dX8_doesTo_72 rfl (lv_at hl 0 rfl) ?_
      refine va_get (D := (dC, dI)) (ci := 8) (v := .int v_jars) (C := RX8) (T := TX8) (N := 33) hx hb hts hiX8 hown hK hP 0 rfl rfl 4 (by decide) (hts (.fieldLink RX8 60 "GreenJarsModel" "jars" "I") (by decide +kernel)) (fun _ h9 => h9) rfl dX8_doesTo_73 ?_
      refine lv_icmp_ge (tgt := 96) hx hb dX8_doesTo_76 (by decide) (fun c8 => ?_) (fun c8 => ?_)
      · have hf := g_pos c8 hf
        refine lv_iconst (v := (0 : Int32)) hx hb dX8_doesTo_96 (by decide) ?_
        rw [hQ]
        cases hf
        exact W.zret hx hb hr (by decide +kernel) (fun t ht hW => ⟨⟨_, (), rfl, rfl, by rw [ht]; exact hP, va_K.moved hW.alike hK, hD⟩, hS.F ht⟩) hS.2.2 dX8_doesTo_97
      · have hf := g_neg c8 hf
        refine lv_aload_n hx hb dX8_doesTo_79 rfl (lv_at hl 0 rfl) ?_
        refine lv_aload_n hx hb dX8_doesTo_80 rfl (lv_at hl 0 rfl) ?_
        refine va_get (D := (dC, dI)) (ci := 8) (v := .ref o_trial) (C := RX8) (T := TX8) (N := 33) hx hb hts hiX8 hown hK hP 0 rfl rfl 11 (by decide) (hts (.fieldLink RX8 25 "GreenJarsModel" "trial" "[I") (by decide +kernel)) (fun _ h9 => h9) rfl dX8_doesTo_81 ?_
        refine lv_iload_n hx hb dX8_doesTo_84 rfl (lv_at hl 2 rfl) ?_
        obtain ⟨r9, hc10, hf⟩ := g_b1 hf
        refine g_rV (As := [.ref o_trial, .int a2]) (rest := []) ⟨hx, hb, hml, hown, hts⟩ (c_X8_sees l dC dI cI cZ cG o o_text o_kind o_size o_readJar o_page o_trial o_book o_kept o_isKept o_tastedFrom o_tastedTo o_order o_spots o_gains o_value o_trial  v_thrown v_textSize v_place v_jars v_readPlaces v_readJars v_acts v_tasted v_seed v_some v_rowMany v_rowWay v_stuffWhich v_stuffNear v_keptMany v_keptFirst v_restMany v_restFirst f_kind y_trial a2 hc10) (cwV 2 hts gX8_doesTo_X8_sees rfl rfl rfl (by decide +kernel) ⟨Nat.le_of_ble_eq_true rfl, Nat.le_of_ble_eq_true rfl⟩) hK hN (hP.sub [0, 1, 2] rfl) (va_recv hK hP (ci := 8) (q0 := 0) rfl rfl) rfl hl.1 rfl (Nat.le_of_ble_eq_true rfl) dX8_doesTo_85 ⟨Nat.zero_le _, Nat.zero_le _⟩ ?_
        refine lv_iload_n hx hb dX8_doesTo_88 rfl (lv_at hl 3 rfl) ?_
        refine lv_icmp_ne (tgt := 96) hx hb dX8_doesTo_89 (by decide) (fun c11 => ?_) (fun c11 => ?_)
        · have hf := g_neg c11 hf
          refine lv_iconst (v := (0 : Int32)) hx hb dX8_doesTo_96 (by decide) ?_
          rw [hQ]
          cases hf
          exact W.zret hx hb hr (by decide +kernel) (fun t ht hW => ⟨⟨_, (), rfl, rfl, by rw [ht]; exact hP, va_K.moved hW.alike hK, hD⟩, hS.F ht⟩) hS.2.2 dX8_doesTo_97
        · have hf := g_pos c11 hf
          refine lv_iconst (v := (1 : Int32)) hx hb dX8_doesTo_92 (by decide) ?_
          refine lv_goto (tgt := 97) hx hb dX8_doesTo_93 (by decide) ?_
          rw [hQ]
          cases hf
          exact W.zret hx hb hr (by decide +kernel) (fun t ht hW => ⟨⟨_, (), rfl, rfl, by rw [ht]; exact hP, va_K.moved hW.alike hK, hD⟩, hS.F ht⟩) hS.2.2 dX8_doesTo_97
  have J33 : ∀ (y_trial : Nat → Int32) (H : Heap) (locs : List Loc) (ls : Array Slot), x8_doesTo_b33 N v_jars v_some f_kind a1 a2 a3 y_trial = some (r0, n_trial) → lv_has ls 4 [(0, .ref o), (1, .int a1), (2, .int a2), (3, .int a3)] → va_P (dC, dI) vwCl (w_X8_doesTo cI cZ cG o o_text o_kind o_size o_readJar o_page o_trial o_book o_kept o_isKept o_tastedFrom o_tastedTo o_order o_spots o_gains o_value v_thrown v_textSize v_place v_jars v_readPlaces v_readJars v_acts v_tasted v_seed v_some v_rowMany v_rowWay v_stuffWhich v_stuffNear v_keptMany v_keptFirst v_restMany v_restFirst f_kind y_trial) H → va_D A (w_X8_doesTo cI cZ cG o o_text o_kind o_size o_readJar o_page o_trial o_book o_kept o_isKept o_tastedFrom o_tastedTo o_order o_spots o_gains o_value v_thrown v_textSize v_place v_jars v_readPlaces v_readJars v_acts v_tasted v_seed v_some v_rowMany v_rowWay v_stuffWhich v_stuffNear v_keptMany v_keptFirst v_restMany v_restFirst f_kind y_trial) → va_S A s.heap H locs → W p l e rm_X8_doesTo s m (([Value.ref o, Value.int a1, Value.int a2, Value.int a3] : List Value).toArray) below meth c H locs 0 0 Q (F0 m 33 ls []) := by
    intro y_trial H locs ls hf hl hP hD hS
    unfold x8_doesTo_b33 at hf
    refine lv_iload_n hx hb dX8_doesTo_33 rfl (lv_at hl 1 rfl) ?_
    refine lv_iconst (v := (3 : Int32)) hx hb dX8_doesTo_34 (by decide) ?_
    refine lv_icmp_ne (tgt := 66) hx hb dX8_doesTo_35 (by decide) (fun c12 => ?_) (fun c12 => ?_)
    · have hf := g_neg c12 hf
      exact J66 y_trial H locs ls hf (lv_sub hl [0, 1, 2, 3] rfl) hP hD hS
    · have hf := g_pos c12 hf
      refine lv_iload_n hx hb dX8_doesTo_38 rfl (lv_at hl 3 rfl) ?_
      refine lv_iconst (v := (4 : Int32)) hx hb dX8_doesTo_39 (by decide) ?_
      refine lv_icmp_ge (tgt := 66) hx hb dX8_doesTo_40 (by decide) (fun c13 => ?_) (fun c13 => ?_)
      · have hf := g_pos c13 hf
        exact J66 y_trial H locs ls hf (lv_sub hl [0, 1, 2, 3] rfl) hP hD hS
      · have hf := g_neg c13 hf
        refine lv_aload_n hx hb dX8_doesTo_43 rfl (lv_at hl 0 rfl) ?_
        refine va_get (D := (dC, dI)) (ci := 8) (v := .ref o_trial) (C := RX8) (T := TX8) (N := 33) hx hb hts hiX8 hown hK hP 0 rfl rfl 11 (by decide) (hts (.fieldLink RX8 25 "GreenJarsModel" "trial" "[I") (by decide +kernel)) (fun _ h9 => h9) rfl dX8_doesTo_44 ?_
        refine lv_iload_n hx hb dX8_doesTo_47 rfl (lv_at hl 2 rfl) ?_
        refine lv_iload_n hx hb dX8_doesTo_48 rfl (lv_at hl 3 rfl) ?_
        obtain ⟨r14, hc15, hf⟩ := g_b1 hf
        refine g_rS (As := [.ref o_trial, .int a2, .int a3]) (rest := []) ⟨hx, hb, hml, hown, hts⟩ (c_X8_canPour l dC dI cI cZ cG o_trial  y_trial a2 a3 hc15) (va_cwS 3 hts gX8_doesTo_X8_canPour rfl rfl rfl (by decide +kernel) ⟨Nat.le_of_ble_eq_true rfl, Nat.le_of_ble_eq_true rfl⟩) hK hN (hP.sub [2] rfl) rfl hl.1 rfl (Nat.le_of_ble_eq_true rfl) dX8_doesTo_49 ⟨Nat.zero_le _, Nat.zero_le _⟩ ?_
        refine lv_if_eq (tgt := 66) hx hb dX8_doesTo_52 (by decide) (fun c16 => ?_) (fun c16 => ?_)
        · have hf := g_pos c16 hf
          exact J66 y_trial H locs ls hf (lv_sub hl [0, 1, 2, 3] rfl) hP hD hS
        · have hf := g_neg c16 hf
          refine lv_aload_n hx hb dX8_doesTo_55 rfl (lv_at hl 0 rfl) ?_
          refine va_get (D := (dC, dI)) (ci := 8) (v := .ref o_trial) (C := RX8) (T := TX8) (N := 33) hx hb hts hiX8 hown hK hP 0 rfl rfl 11 (by decide) (hts (.fieldLink RX8 25 "GreenJarsModel" "trial" "[I") (by decide +kernel)) (fun _ h9 => h9) rfl dX8_doesTo_56 ?_
          refine lv_iload_n hx hb dX8_doesTo_59 rfl (lv_at hl 2 rfl) ?_
          refine lv_iload_n hx hb dX8_doesTo_60 rfl (lv_at hl 3 rfl) ?_
          obtain ⟨y17, hc18, hf⟩ := g_b1 hf
          refine g_wSv (As := [.ref o_trial, .int a2, .int a3]) (rest := []) (wr := [(o, .inr (8, [.int v_thrown, .ref o_text, .int v_textSize, .int v_place, .int v_jars, .ref o_kind, .ref o_size, .int v_readPlaces, .int v_readJars, .ref o_readJar, .ref o_page, .ref o_trial, .ref o_book, .int v_acts, .ref o_kept, .ref o_isKept, .int v_tasted, .ref o_tastedFrom, .ref o_tastedTo, .long v_seed, .int v_some, .ref o_order, .ref o_spots, .int v_rowMany, .int v_rowWay, .int v_stuffWhich, .int v_stuffNear, .int v_keptMany, .int v_keptFirst, .int v_restMany, .int v_restFirst, .ref o_gains, .ref o_value])), (o_kind, .inl (cI, 6, .inl f_kind))]) (wn := (w_X8_doesTo cI cZ cG o o_text o_kind o_size o_readJar o_page o_trial o_book o_kept o_isKept o_tastedFrom o_tastedTo o_order o_spots o_gains o_value v_thrown v_textSize v_place v_jars v_readPlaces v_readJars v_acts v_tasted v_seed v_some v_rowMany v_rowWay v_stuffWhich v_stuffNear v_keptMany v_keptFirst v_restMany v_restFirst f_kind y17)) ⟨hx, hb, hml, hown, hts⟩ (c_X8_goPour l dC dI cI cZ cG o_trial H.size  y_trial a2 a3 hc18) (va_cwS 3 hts gX8_doesTo_X8_goPour rfl rfl rfl (by decide +kernel) ⟨Nat.le_of_ble_eq_true rfl, Nat.le_of_ble_eq_true rfl⟩) hK hN hP hD hS hA [2] [0, 1] [0, 1, 2] rfl rfl (by decide) rfl (by decide) (by decide) rfl (by decide) rfl hl.1 rfl (Nat.le_of_ble_eq_true rfl) dX8_doesTo_61 ⟨Nat.zero_le _, Nat.zero_le _⟩ (fun H locs hP hD hS => ?_)
          refine lv_iconst (v := (1 : Int32)) hx hb dX8_doesTo_64 (by decide) ?_
          rw [hQ]
          cases hf
          exact W.zret hx hb hr (by decide +kernel) (fun t ht hW => ⟨⟨_, (), rfl, rfl, by rw [ht]; exact hP, va_K.moved hW.alike hK, hD⟩, hS.F ht⟩) hS.2.2 dX8_doesTo_65
  unfold x8_doesTo at hf
  refine lv_iload_n hx hb dX8_doesTo_0 rfl (lv_at hl 1 rfl) ?_
  refine lv_iconst (v := (2 : Int32)) hx hb dX8_doesTo_1 (by decide) ?_
  refine lv_icmp_ne (tgt := 33) hx hb dX8_doesTo_2 (by decide) (fun c19 => ?_) (fun c19 => ?_)
  · have hf := g_neg c19 hf
    exact J33 f_trial H locs ls hf (lv_sub hl [0, 1, 2, 3] rfl) hP hD hS
  · have hf := g_pos c19 hf
    refine lv_iload_n hx hb dX8_doesTo_5 rfl (lv_at hl 3 rfl) ?_
    refine lv_bipush (v := (8 : Int32)) hx hb dX8_doesTo_6 (by decide +kernel) ?_
    refine lv_icmp_ge (tgt := 33) hx hb dX8_doesTo_8 (by decide) (fun c20 => ?_) (fun c20 => ?_)
    · have hf := g_pos c20 hf
      exact J33 f_trial H locs ls hf (lv_sub hl [0, 1, 2, 3] rfl) hP hD hS
    · have hf := g_neg c20 hf
      refine lv_aload_n hx hb dX8_doesTo_11 rfl (lv_at hl 0 rfl) ?_
      refine lv_aload_n hx hb dX8_doesTo_12 rfl (lv_at hl 0 rfl) ?_
      refine va_get (D := (dC, dI)) (ci := 8) (v := .ref o_trial) (C := RX8) (T := TX8) (N := 33) hx hb hts hiX8 hown hK hP 0 rfl rfl 11 (by decide) (hts (.fieldLink RX8 25 "GreenJarsModel" "trial" "[I") (by decide +kernel)) (fun _ h9 => h9) rfl dX8_doesTo_13 ?_
      refine lv_iload_n hx hb dX8_doesTo_16 rfl (lv_at hl 2 rfl) ?_
      refine lv_iload_n hx hb dX8_doesTo_17 rfl (lv_at hl 3 rfl) ?_
      obtain ⟨r21, hc22, hf⟩ := g_b1 hf
      refine g_rV (As := [.ref o_trial, .int a2, .int a3]) (rest := []) ⟨hx, hb, hml, hown, hts⟩ (c_X8_canSet l dC dI cI cZ cG o o_text o_kind o_size o_readJar o_page o_trial o_book o_kept o_isKept o_tastedFrom o_tastedTo o_order o_spots o_gains o_value o_trial  v_thrown v_textSize v_place v_jars v_readPlaces v_readJars v_acts v_tasted v_seed v_some v_rowMany v_rowWay v_stuffWhich v_stuffNear v_keptMany v_keptFirst v_restMany v_restFirst f_trial a2 a3 hc22) (cwV 3 hts gX8_doesTo_X8_canSet rfl rfl rfl (by decide +kernel) ⟨Nat.le_of_ble_eq_true rfl, Nat.le_of_ble_eq_true rfl⟩) hK hN (hP.sub [0, 2] rfl) (va_recv hK hP (ci := 8) (q0 := 0) rfl rfl) rfl hl.1 rfl (Nat.le_of_ble_eq_true rfl) dX8_doesTo_18 ⟨Nat.zero_le _, Nat.zero_le _⟩ ?_
      refine lv_if_eq (tgt := 33) hx hb dX8_doesTo_21 (by decide) (fun c23 => ?_) (fun c23 => ?_)
      · have hf := g_pos c23 hf
        exact J33 f_trial H locs ls hf (lv_sub hl [0, 1, 2, 3] rfl) hP hD hS
      · have hf := g_neg c23 hf
        refine lv_aload_n hx hb dX8_doesTo_24 rfl (lv_at hl 0 rfl) ?_
        refine va_get (D := (dC, dI)) (ci := 8) (v := .ref o_trial) (C := RX8) (T := TX8) (N := 33) hx hb hts hiX8 hown hK hP 0 rfl rfl 11 (by decide) (hts (.fieldLink RX8 25 "GreenJarsModel" "trial" "[I") (by decide +kernel)) (fun _ h9 => h9) rfl dX8_doesTo_25 ?_
        refine lv_iload_n hx hb dX8_doesTo_28 rfl (lv_at hl 2 rfl) ?_
        refine lv_iload_n hx hb dX8_doesTo_29 rfl (lv_at hl 3 rfl) ?_
        obtain ⟨h24, hf⟩ := g_chk hf
        refine va_iast hx hb hK hP hD hS 2 0 rfl rfl (gIn_vp h24) dX8_doesTo_30 (fun H locs hP hD hS => ?_)
        have hP : va_P (dC, dI) vwCl (w_X8_doesTo cI cZ cG o o_text o_kind o_size o_readJar o_page o_trial o_book o_kept o_isKept o_tastedFrom o_tastedTo o_order o_spots o_gains o_value v_thrown v_textSize v_place v_jars v_readPlaces v_readJars v_acts v_tasted v_seed v_some v_rowMany v_rowWay v_stuffWhich v_stuffNear v_keptMany v_keptFirst v_restMany v_restFirst f_kind (upd f_trial a2.toNatClampNeg a3)) H := hP
        have hD : va_D A (w_X8_doesTo cI cZ cG o o_text o_kind o_size o_readJar o_page o_trial o_book o_kept o_isKept o_tastedFrom o_tastedTo o_order o_spots o_gains o_value v_thrown v_textSize v_place v_jars v_readPlaces v_readJars v_acts v_tasted v_seed v_some v_rowMany v_rowWay v_stuffWhich v_stuffNear v_keptMany v_keptFirst v_restMany v_restFirst f_kind (upd f_trial a2.toNatClampNeg a3)) := hD
        refine lv_iconst (v := (1 : Int32)) hx hb dX8_doesTo_31 (by decide) ?_
        rw [hQ]
        cases hf
        exact W.zret hx hb hr (by decide +kernel) (fun t ht hW => ⟨⟨_, (), rfl, rfl, by rw [ht]; exact hP, va_K.moved hW.alike hK, hD⟩, hS.F ht⟩) hS.2.2 dX8_doesTo_32
abbrev rm_X8_does : Room := { frames := 5, cells := 0, slots := 0, locals := 117 }
abbrev w_X8_does (cI cZ cG : ClassId) (o : Nat) (o_text : Nat) (o_kind : Nat) (o_size : Nat) (o_readJar : Nat) (o_page : Nat) (o_trial : Nat) (o_book : Nat) (o_kept : Nat) (o_isKept : Nat) (o_tastedFrom : Nat) (o_tastedTo : Nat) (o_order : Nat) (o_spots : Nat) (o_gains : Nat) (o_value : Nat) (v_thrown : Int32) (v_textSize : Int32) (v_place : Int32) (v_jars : Int32) (v_readPlaces : Int32) (v_readJars : Int32) (v_acts : Int32) (v_tasted : Int32) (v_seed : Int64) (v_some : Int32) (v_rowMany : Int32) (v_rowWay : Int32) (v_stuffWhich : Int32) (v_stuffNear : Int32) (v_keptMany : Int32) (v_keptFirst : Int32) (v_restMany : Int32) (v_restFirst : Int32) (f_kind : Nat → Int32) (f_size : Nat → Int32) (f_trial : Nat → Int32) : va_W := [(o, .inr (8, [.int v_thrown, .ref o_text, .int v_textSize, .int v_place, .int v_jars, .ref o_kind, .ref o_size, .int v_readPlaces, .int v_readJars, .ref o_readJar, .ref o_page, .ref o_trial, .ref o_book, .int v_acts, .ref o_kept, .ref o_isKept, .int v_tasted, .ref o_tastedFrom, .ref o_tastedTo, .long v_seed, .int v_some, .ref o_order, .ref o_spots, .int v_rowMany, .int v_rowWay, .int v_stuffWhich, .int v_stuffNear, .int v_keptMany, .int v_keptFirst, .int v_restMany, .int v_restFirst, .ref o_gains, .ref o_value])), (o_kind, .inl (cI, 6, .inl f_kind)), (o_size, .inl (cI, 6, .inl f_size)), (o_trial, .inl (cI, 37, .inl f_trial))]
set_option maxHeartbeats 4000000 in
set_option maxRecDepth 100000 in
theorem c_X8_does (l : Launch) (dC : Nat → ClassId) (dI : Nat → Nat → Nat) (cI cZ cG : ClassId) {N : Nat} (o : Nat) (o_text : Nat) (o_kind : Nat) (o_size : Nat) (o_readJar : Nat) (o_page : Nat) (o_trial : Nat) (o_book : Nat) (o_kept : Nat) (o_isKept : Nat) (o_tastedFrom : Nat) (o_tastedTo : Nat) (o_order : Nat) (o_spots : Nat) (o_gains : Nat) (o_value : Nat) (sz : Nat) (v_thrown : Int32) (v_textSize : Int32) (v_place : Int32) (v_jars : Int32) (v_readPlaces : Int32) (v_readJars : Int32) (v_acts : Int32) (v_tasted : Int32) (v_seed : Int64) (v_some : Int32) (v_rowMany : Int32) (v_rowWay : Int32) (v_stuffWhich : Int32) (v_stuffNear : Int32) (v_keptMany : Int32) (v_keptFirst : Int32) (v_restMany : Int32) (v_restFirst : Int32) (f_kind : Nat → Int32) (f_size : Nat → Int32) (f_trial : Nat → Int32) (a1 : Int32) {r0 : Int32} {n_trial : Nat → Int32} (hf : x8_does N v_jars v_some f_kind f_size f_trial a1 = some (r0, n_trial)) : Met l yX8_does wsX8_does rm_X8_does (va_Pc [.ref o, .int a1] (gW (dC, dI) vwCl (gT cI cZ cG) (w_X8_does cI cZ cG o o_text o_kind o_size o_readJar o_page o_trial o_book o_kept o_isKept o_tastedFrom o_tastedTo o_order o_spots o_gains o_value v_thrown v_textSize v_place v_jars v_readPlaces v_readJars v_acts v_tasted v_seed v_some v_rowMany v_rowWay v_stuffWhich v_stuffNear v_keptMany v_keptFirst v_restMany v_restFirst f_kind f_size f_trial) sz)) (va_Qi (fun r _ => r = r0) (gE (dC, dI) vwCl (gT cI cZ cG) (w_X8_does cI cZ cG o o_text o_kind o_size o_readJar o_page o_trial o_book o_kept o_isKept o_tastedFrom o_tastedTo o_order o_spots o_gains o_value v_thrown v_textSize v_place v_jars v_readPlaces v_readJars v_acts v_tasted v_seed v_some v_rowMany v_rowWay v_stuffWhich v_stuffNear v_keptMany v_keptFirst v_restMany v_restFirst f_kind f_size n_trial) (va_A (w_X8_does cI cZ cG o o_text o_kind o_size o_readJar o_page o_trial o_book o_kept o_isKept o_tastedFrom o_tastedTo o_order o_spots o_gains o_value v_thrown v_textSize v_place v_jars v_readPlaces v_readJars v_acts v_tasted v_seed v_some v_rowMany v_rowWay v_stuffWhich v_stuffNear v_keptMany v_keptFirst v_restMany v_restFirst f_kind f_size f_trial) sz)) (va_A (w_X8_does cI cZ cG o o_text o_kind o_size o_readJar o_page o_trial o_book o_kept o_isKept o_tastedFrom o_tastedTo o_order o_spots o_gains o_value v_thrown v_textSize v_place v_jars v_readPlaces v_readJars v_acts v_tasted v_seed v_some v_rowMany v_rowWay v_stuffWhich v_stuffNear v_keptMany v_keptFirst v_restMany v_restFirst f_kind f_size f_trial) sz)) 0 0 (va_A (w_X8_does cI cZ cG o o_text o_kind o_size o_readJar o_page o_trial o_book o_kept o_isKept o_tastedFrom o_tastedTo o_order o_spots o_gains o_value v_thrown v_textSize v_place v_jars v_readPlaces v_readJars v_acts v_tasted v_seed v_some v_rowMany v_rowWay v_stuffWhich v_stuffNear v_keptMany v_keptFirst v_restMany v_restFirst f_kind f_size f_trial) sz) := by
  refine Met.ofW (cc := cX8_does) (maxL := 6) (ret := (some .boolean)) (by decide) rfl ?_
  intro p e s m args below meth c s₁ B hml hv
  obtain ⟨rfl, hv⟩ := hv
  obtain ⟨hsz, hP, hK, hN, hD0⟩ := hv
  have hx := B.exec
  have hb := B.bytes
  have hr := B.returns
  have hts := atoms_spec (ws := wsX8_does) B.pre
  have hown : s.vm.findClass RX8 = some m.cls := findClass_of_methodNamed B.named
  have hlocks := B.notSynchronized
  have hiX8 : ∀ w ∈ u_ws RX8 TX8 33, w ∈ wsX8_does := fun w h => List.mem_cons_of_mem _ (List.mem_append_right _ h)
  subst hsz
  have hD := hD0.self (sz := s.heap.size)
  generalize hAe : va_A (w_X8_does cI cZ cG o o_text o_kind o_size o_readJar o_page o_trial o_book o_kept o_isKept o_tastedFrom o_tastedTo o_order o_spots o_gains o_value v_thrown v_textSize v_place v_jars v_readPlaces v_readJars v_acts v_tasted v_seed v_some v_rowMany v_rowWay v_stuffWhich v_stuffNear v_keptMany v_keptFirst v_restMany v_restFirst f_kind f_size f_trial) s.heap.size = A at hD ⊢
  have hA : ∀ q : Nat, s.heap.size ≤ q → A q := fun q h => by rw [← hAe]; exact Or.inr h
  clear hD0
  have hS : va_S A s.heap s.heap [] := va_S.rf
  have hP : va_P (dC, dI) vwCl (w_X8_does cI cZ cG o o_text o_kind o_size o_readJar o_page o_trial o_book o_kept o_isKept o_tastedFrom o_tastedTo o_order o_spots o_gains o_value v_thrown v_textSize v_place v_jars v_readPlaces v_readJars v_acts v_tasted v_seed v_some v_rowMany v_rowWay v_stuffWhich v_stuffNear v_keptMany v_keptFirst v_restMany v_restFirst f_kind f_size f_trial) s.heap := hP
  obtain ⟨Q, hQ⟩ : ∃ Q : State → Prop, Q = MQ below (va_Qi (fun r _ => r = r0) (gE (dC, dI) vwCl (gT cI cZ cG) (w_X8_does cI cZ cG o o_text o_kind o_size o_readJar o_page o_trial o_book o_kept o_isKept o_tastedFrom o_tastedTo o_order o_spots o_gains o_value v_thrown v_textSize v_place v_jars v_readPlaces v_readJars v_acts v_tasted v_seed v_some v_rowMany v_rowWay v_stuffWhich v_stuffNear v_keptMany v_keptFirst v_restMany v_restFirst f_kind f_size n_trial) A) A) (([Value.ref o, Value.int a1] : List Value).toArray) s 0 0 A := ⟨_, rfl⟩
  have hl := lv_entry ([.ref o, .int a1]) (n := 6) (Nat.le_of_ble_eq_true rfl)
  rw [← hQ, lg_entry_eq]
  generalize (lg_sl ([.ref o, .int a1]) ++ List.replicate (6 - (lg_sl ([.ref o, .int a1])).length) Slot.unset).toArray = ls at hl ⊢
  have hl : lv_has ls 6 [(0, .ref o), (1, .int a1)] := hl
  generalize hH : s.heap = H at hP hS ⊢
  have hS : va_S A s.heap H [] := by rw [hH]; exact hS
  generalize hlc : ([] : List Loc) = locs at hS ⊢
  show W p l e rm_X8_does s m (([Value.ref o, Value.int a1] : List Value).toArray) below meth c H locs 0 0 Q (F0 m 0 ls [])
  have J85 : ∀ (x4 : Int32) (t0 : Int32) (y_trial : Nat → Int32) (H : Heap) (locs : List Loc) (ls : Array Slot), x8_does_b85 N v_jars v_some f_kind f_size a1 x4 t0 y_trial = some (r0, n_trial) → lv_has ls 6 [(0, .ref o), (4, .int x4)] → va_P (dC, dI) vwCl (w_X8_does cI cZ cG o o_text o_kind o_size o_readJar o_page o_trial o_book o_kept o_isKept o_tastedFrom o_tastedTo o_order o_spots o_gains o_value v_thrown v_textSize v_place v_jars v_readPlaces v_readJars v_acts v_tasted v_seed v_some v_rowMany v_rowWay v_stuffWhich v_stuffNear v_keptMany v_keptFirst v_restMany v_restFirst f_kind f_size y_trial) H → va_D A (w_X8_does cI cZ cG o o_text o_kind o_size o_readJar o_page o_trial o_book o_kept o_isKept o_tastedFrom o_tastedTo o_order o_spots o_gains o_value v_thrown v_textSize v_place v_jars v_readPlaces v_readJars v_acts v_tasted v_seed v_some v_rowMany v_rowWay v_stuffWhich v_stuffNear v_keptMany v_keptFirst v_restMany v_restFirst f_kind f_size y_trial) → va_S A s.heap H locs → W p l e rm_X8_does s m (([Value.ref o, Value.int a1] : List Value).toArray) below meth c H locs 0 0 Q (F0 m 85 ls [.int t0]) := by
    intro x4 t0 y_trial H locs ls hf hl hP hD hS
    unfold x8_does_b85 at hf
    refine lv_istore (lv' := [(5, .int t0), (0, .ref o), (4, .int x4)]) hx hb dX8_does_85 hl (by decide) rfl (fun ls hl => ?_)
    refine lv_iload hx hb dX8_does_87 (lv_at hl 0 rfl) ?_
    refine lv_if_eq (tgt := 103) hx hb dX8_does_89 (by decide) (fun c1 => ?_) (fun c1 => ?_)
    · have hf := g_pos c1 hf
      refine lv_iload hx hb dX8_does_103 (lv_at hl 0 rfl) ?_
      obtain ⟨h2, hf⟩ := g_chk hf
      rw [hQ]
      cases hf
      exact W.zret hx hb hr (gBl_or h2) (fun t ht hW => ⟨⟨_, (), rfl, rfl, by rw [ht]; exact hP, va_K.moved hW.alike hK, hD⟩, hS.F ht⟩) hS.2.2 dX8_does_105
    · have hf := g_neg c1 hf
      refine lv_aload_n hx hb dX8_does_92 rfl (lv_at hl 1 rfl) ?_
      refine va_get (D := (dC, dI)) (ci := 8) (v := .ref o_trial) (C := RX8) (T := TX8) (N := 33) hx hb hts hiX8 hown hK hP 0 rfl rfl 11 (by decide) (hts (.fieldLink RX8 25 "GreenJarsModel" "trial" "[I") (by decide +kernel)) (fun _ h9 => h9) rfl dX8_does_93 ?_
      refine lv_bipush (v := (30 : Int32)) hx hb dX8_does_96 (by decide +kernel) ?_
      refine lv_iload hx hb dX8_does_98 (lv_at hl 2 rfl) ?_
      refine lv_iadd hx hb dX8_does_100 ?_
      refine lv_iconst (v := (2 : Int32)) hx hb dX8_does_101 (by decide) ?_
      obtain ⟨h3, hf⟩ := g_chk hf
      refine va_iast hx hb hK hP hD hS 3 0 rfl rfl (gIn_vp h3) dX8_does_102 (fun H locs hP hD hS => ?_)
      have hP : va_P (dC, dI) vwCl (w_X8_does cI cZ cG o o_text o_kind o_size o_readJar o_page o_trial o_book o_kept o_isKept o_tastedFrom o_tastedTo o_order o_spots o_gains o_value v_thrown v_textSize v_place v_jars v_readPlaces v_readJars v_acts v_tasted v_seed v_some v_rowMany v_rowWay v_stuffWhich v_stuffNear v_keptMany v_keptFirst v_restMany v_restFirst f_kind f_size (upd y_trial ((30 : Int32) + x4).toNatClampNeg (2 : Int32))) H := hP
      have hD : va_D A (w_X8_does cI cZ cG o o_text o_kind o_size o_readJar o_page o_trial o_book o_kept o_isKept o_tastedFrom o_tastedTo o_order o_spots o_gains o_value v_thrown v_textSize v_place v_jars v_readPlaces v_readJars v_acts v_tasted v_seed v_some v_rowMany v_rowWay v_stuffWhich v_stuffNear v_keptMany v_keptFirst v_restMany v_restFirst f_kind f_size (upd y_trial ((30 : Int32) + x4).toNatClampNeg (2 : Int32))) := hD
      refine lv_iload hx hb dX8_does_103 (lv_at hl 0 rfl) ?_
      obtain ⟨h4, hf⟩ := g_chk hf
      rw [hQ]
      cases hf
      exact W.zret hx hb hr (gBl_or h4) (fun t ht hW => ⟨⟨_, (), rfl, rfl, by rw [ht]; exact hP, va_K.moved hW.alike hK, hD⟩, hS.F ht⟩) hS.2.2 dX8_does_105
  have J84 : ∀ (x4 : Int32) (y_trial : Nat → Int32) (H : Heap) (locs : List Loc) (ls : Array Slot), x8_does_b84 N v_jars v_some f_kind f_size a1 x4 y_trial = some (r0, n_trial) → lv_has ls 6 [(0, .ref o), (4, .int x4)] → va_P (dC, dI) vwCl (w_X8_does cI cZ cG o o_text o_kind o_size o_readJar o_page o_trial o_book o_kept o_isKept o_tastedFrom o_tastedTo o_order o_spots o_gains o_value v_thrown v_textSize v_place v_jars v_readPlaces v_readJars v_acts v_tasted v_seed v_some v_rowMany v_rowWay v_stuffWhich v_stuffNear v_keptMany v_keptFirst v_restMany v_restFirst f_kind f_size y_trial) H → va_D A (w_X8_does cI cZ cG o o_text o_kind o_size o_readJar o_page o_trial o_book o_kept o_isKept o_tastedFrom o_tastedTo o_order o_spots o_gains o_value v_thrown v_textSize v_place v_jars v_readPlaces v_readJars v_acts v_tasted v_seed v_some v_rowMany v_rowWay v_stuffWhich v_stuffNear v_keptMany v_keptFirst v_restMany v_restFirst f_kind f_size y_trial) → va_S A s.heap H locs → W p l e rm_X8_does s m (([Value.ref o, Value.int a1] : List Value).toArray) below meth c H locs 0 0 Q (F0 m 84 ls []) := by
    intro x4 y_trial H locs ls hf hl hP hD hS
    unfold x8_does_b84 at hf
    refine lv_iconst (v := (0 : Int32)) hx hb dX8_does_84 (by decide) ?_
    exact J85 x4 (0 : Int32) y_trial H locs ls hf (lv_sub hl [0, 1] rfl) hP hD hS
  unfold x8_does at hf
  refine lv_iload_n hx hb dX8_does_0 rfl (lv_at hl 1 rfl) ?_
  refine lv_bipush (v := (100 : Int32)) hx hb dX8_does_1 (by decide +kernel) ?_
  refine lv_idiv hx hb dX8_does_3 (by decide) ?_
  refine lv_istore_n (lv' := [(2, .int (a1 / (100 : Int32))), (0, .ref o), (1, .int a1)]) hx hb dX8_does_4 rfl hl (by decide) rfl (fun ls hl => ?_)
  refine lv_iload_n hx hb dX8_does_5 rfl (lv_at hl 2 rfl) ?_
  refine lv_bipush (v := (10 : Int32)) hx hb dX8_does_6 (by decide +kernel) ?_
  refine lv_idiv hx hb dX8_does_8 (by decide) ?_
  refine lv_bipush (v := (10 : Int32)) hx hb dX8_does_9 (by decide +kernel) ?_
  refine lv_irem hx hb dX8_does_11 (by decide) ?_
  refine lv_istore_n (lv' := [(3, .int ((a1 / (10 : Int32)) - (a1 / (10 : Int32)) / (10 : Int32) * (10 : Int32))), (2, .int (a1 / (100 : Int32))), (0, .ref o), (1, .int a1)]) hx hb dX8_does_12 rfl hl (by decide) rfl (fun ls hl => ?_)
  refine lv_iload_n hx hb dX8_does_13 rfl (lv_at hl 3 rfl) ?_
  refine lv_bipush (v := (10 : Int32)) hx hb dX8_does_14 (by decide +kernel) ?_
  refine lv_irem hx hb dX8_does_16 (by decide) ?_
  refine lv_istore (lv' := [(4, .int (a1 - a1 / (10 : Int32) * (10 : Int32))), (3, .int ((a1 / (10 : Int32)) - (a1 / (10 : Int32)) / (10 : Int32) * (10 : Int32))), (2, .int (a1 / (100 : Int32))), (0, .ref o), (1, .int a1)]) hx hb dX8_does_17 hl (by decide) rfl (fun ls hl => ?_)
  refine lv_iload_n hx hb dX8_does_19 rfl (lv_at hl 4 rfl) ?_
  refine lv_if_ne (tgt := 33) hx hb dX8_does_20 (by decide) (fun c5 => ?_) (fun c5 => ?_)
  · have hf := g_neg c5 hf
    refine lv_iload_n hx hb dX8_does_33 rfl (lv_at hl 4 rfl) ?_
    refine lv_bipush (v := (100 : Int32)) hx hb dX8_does_34 (by decide +kernel) ?_
    refine lv_icmp_ne (tgt := 50) hx hb dX8_does_36 (by decide) (fun c6 => ?_) (fun c6 => ?_)
    · have hf := g_neg c6 hf
      refine lv_iload_n hx hb dX8_does_50 rfl (lv_at hl 2 rfl) ?_
      refine lv_iconst (v := (4 : Int32)) hx hb dX8_does_51 (by decide) ?_
      refine lv_icmp_ne (tgt := 106) hx hb dX8_does_52 (by decide) (fun c7 => ?_) (fun c7 => ?_)
      · have hf := g_neg c7 hf
        refine lv_aload_n hx hb dX8_does_106 rfl (lv_at hl 3 rfl) ?_
        refine lv_iload_n hx hb dX8_does_107 rfl (lv_at hl 1 rfl) ?_
        obtain ⟨r8, hc9, hf⟩ := g_b1 hf
        refine g_rV (As := [.int ((a1 / (10 : Int32)) - (a1 / (10 : Int32)) / (10 : Int32) * (10 : Int32))]) (rest := []) ⟨hx, hb, hml, hown, hts⟩ (c_X8_noJar l dC dI cI cZ cG o o_text o_kind o_size o_readJar o_page o_trial o_book o_kept o_isKept o_tastedFrom o_tastedTo o_order o_spots o_gains o_value  v_thrown v_textSize v_place v_jars v_readPlaces v_readJars v_acts v_tasted v_seed v_some v_rowMany v_rowWay v_stuffWhich v_stuffNear v_keptMany v_keptFirst v_restMany v_restFirst ((a1 / (10 : Int32)) - (a1 / (10 : Int32)) / (10 : Int32) * (10 : Int32)) hc9) (cwV 1 hts gX8_does_X8_noJar rfl rfl rfl (by decide +kernel) ⟨Nat.le_of_ble_eq_true rfl, Nat.le_of_ble_eq_true rfl⟩) hK hN (hP.sub [0] rfl) (va_recv hK hP (ci := 8) (q0 := 0) rfl rfl) rfl hl.1 rfl (Nat.le_of_ble_eq_true rfl) dX8_does_108 ⟨Nat.zero_le _, Nat.zero_le _⟩ ?_
        refine lv_if_ne (tgt := 129) hx hb dX8_does_111 (by decide) (fun c10 => ?_) (fun c10 => ?_)
        · have hf := g_neg c10 hf
          refine lv_iconst (v := (0 : Int32)) hx hb dX8_does_129 (by decide) ?_
          rw [hQ]
          cases hf
          exact W.zret hx hb hr (by decide +kernel) (fun t ht hW => ⟨⟨_, (), rfl, rfl, by rw [ht]; exact hP, va_K.moved hW.alike hK, hD⟩, hS.F ht⟩) hS.2.2 dX8_does_130
        · have hf := g_pos c10 hf
          refine lv_aload_n hx hb dX8_does_114 rfl (lv_at hl 3 rfl) ?_
          refine lv_iload_n hx hb dX8_does_115 rfl (lv_at hl 2 rfl) ?_
          refine lv_iload_n hx hb dX8_does_116 rfl (lv_at hl 1 rfl) ?_
          refine lv_iload hx hb dX8_does_117 (lv_at hl 0 rfl) ?_
          obtain ⟨r11, y12, hc13, hf⟩ := g_b2 hf
          refine g_wV (As := [.int (a1 / (100 : Int32)), .int ((a1 / (10 : Int32)) - (a1 / (10 : Int32)) / (10 : Int32) * (10 : Int32)), .int (a1 - a1 / (10 : Int32) * (10 : Int32))]) (rest := []) (wr := [(o_size, .inl (cI, 6, .inl f_size))]) (wn := (w_X8_does cI cZ cG o o_text o_kind o_size o_readJar o_page o_trial o_book o_kept o_isKept o_tastedFrom o_tastedTo o_order o_spots o_gains o_value v_thrown v_textSize v_place v_jars v_readPlaces v_readJars v_acts v_tasted v_seed v_some v_rowMany v_rowWay v_stuffWhich v_stuffNear v_keptMany v_keptFirst v_restMany v_restFirst f_kind f_size y12)) ⟨hx, hb, hml, hown, hts⟩ (c_X8_doesTo l dC dI cI cZ cG o o_text o_kind o_size o_readJar o_page o_trial o_book o_kept o_isKept o_tastedFrom o_tastedTo o_order o_spots o_gains o_value H.size  v_thrown v_textSize v_place v_jars v_readPlaces v_readJars v_acts v_tasted v_seed v_some v_rowMany v_rowWay v_stuffWhich v_stuffNear v_keptMany v_keptFirst v_restMany v_restFirst f_kind f_trial (a1 / (100 : Int32)) ((a1 / (10 : Int32)) - (a1 / (10 : Int32)) / (10 : Int32) * (10 : Int32)) (a1 - a1 / (10 : Int32) * (10 : Int32)) hc13) (cwV 3 hts gX8_does_X8_doesTo rfl rfl rfl (by decide +kernel) ⟨Nat.le_of_ble_eq_true rfl, Nat.le_of_ble_eq_true rfl⟩) hK hN hP hD hS hA [0, 1, 3] [2] [1, 2, 0, 3] rfl rfl (by decide) rfl (by decide) (by decide) rfl (by decide) (va_recv hK hP (ci := 8) (q0 := 0) rfl rfl) rfl hl.1 rfl (Nat.le_of_ble_eq_true rfl) dX8_does_119 ⟨Nat.zero_le _, Nat.zero_le _⟩ (fun H locs hP hD hS => ?_)
          refine lv_if_eq (tgt := 129) hx hb dX8_does_122 (by decide) (fun c14 => ?_) (fun c14 => ?_)
          · have hf := g_pos c14 hf
            refine lv_iconst (v := (0 : Int32)) hx hb dX8_does_129 (by decide) ?_
            rw [hQ]
            cases hf
            exact W.zret hx hb hr (by decide +kernel) (fun t ht hW => ⟨⟨_, (), rfl, rfl, by rw [ht]; exact hP, va_K.moved hW.alike hK, hD⟩, hS.F ht⟩) hS.2.2 dX8_does_130
          · have hf := g_neg c14 hf
            refine lv_iconst (v := (1 : Int32)) hx hb dX8_does_125 (by decide) ?_
            refine lv_goto (tgt := 130) hx hb dX8_does_126 (by decide) ?_
            rw [hQ]
            cases hf
            exact W.zret hx hb hr (by decide +kernel) (fun t ht hW => ⟨⟨_, (), rfl, rfl, by rw [ht]; exact hP, va_K.moved hW.alike hK, hD⟩, hS.F ht⟩) hS.2.2 dX8_does_130
      · have hf := g_pos c7 hf
        refine lv_iload_n hx hb dX8_does_55 rfl (lv_at hl 1 rfl) ?_
        refine lv_if_ne (tgt := 84) hx hb dX8_does_56 (by decide) (fun c15 => ?_) (fun c15 => ?_)
        · have hf := g_neg c15 hf
          exact J84 (a1 - a1 / (10 : Int32) * (10 : Int32)) f_trial H locs ls hf (lv_sub hl [3, 0] rfl) hP hD hS
        · have hf := g_pos c15 hf
          refine lv_aload_n hx hb dX8_does_59 rfl (lv_at hl 3 rfl) ?_
          refine lv_iload hx hb dX8_does_60 (lv_at hl 0 rfl) ?_
          obtain ⟨r16, hc17, hf⟩ := g_b1 hf
          refine g_rV (As := [.int (a1 - a1 / (10 : Int32) * (10 : Int32))]) (rest := []) ⟨hx, hb, hml, hown, hts⟩ (c_X8_noJar l dC dI cI cZ cG o o_text o_kind o_size o_readJar o_page o_trial o_book o_kept o_isKept o_tastedFrom o_tastedTo o_order o_spots o_gains o_value  v_thrown v_textSize v_place v_jars v_readPlaces v_readJars v_acts v_tasted v_seed v_some v_rowMany v_rowWay v_stuffWhich v_stuffNear v_keptMany v_keptFirst v_restMany v_restFirst (a1 - a1 / (10 : Int32) * (10 : Int32)) hc17) (cwV 1 hts gX8_does_X8_noJar rfl rfl rfl (by decide +kernel) ⟨Nat.le_of_ble_eq_true rfl, Nat.le_of_ble_eq_true rfl⟩) hK hN (hP.sub [0] rfl) (va_recv hK hP (ci := 8) (q0 := 0) rfl rfl) rfl hl.1 rfl (Nat.le_of_ble_eq_true rfl) dX8_does_62 ⟨Nat.zero_le _, Nat.zero_le _⟩ ?_
          refine lv_if_ne (tgt := 84) hx hb dX8_does_65 (by decide) (fun c18 => ?_) (fun c18 => ?_)
          · have hf := g_neg c18 hf
            exact J84 (a1 - a1 / (10 : Int32) * (10 : Int32)) f_trial H locs ls hf (lv_sub hl [3, 0] rfl) hP hD hS
          · have hf := g_pos c18 hf
            refine lv_aload_n hx hb dX8_does_68 rfl (lv_at hl 3 rfl) ?_
            refine va_get (D := (dC, dI)) (ci := 8) (v := .ref o_trial) (C := RX8) (T := TX8) (N := 33) hx hb hts hiX8 hown hK hP 0 rfl rfl 11 (by decide) (hts (.fieldLink RX8 25 "GreenJarsModel" "trial" "[I") (by decide +kernel)) (fun _ h9 => h9) rfl dX8_does_69 ?_
            refine lv_iload hx hb dX8_does_72 (lv_at hl 0 rfl) ?_
            obtain ⟨r19, hc20, hf⟩ := g_b1 hf
            refine g_rS (As := [.ref o_trial, .int (a1 - a1 / (10 : Int32) * (10 : Int32))]) (rest := []) ⟨hx, hb, hml, hown, hts⟩ (c_X8_isWhole l dC dI cI cZ cG o_trial  f_trial (a1 - a1 / (10 : Int32) * (10 : Int32)) hc20) (va_cwS 2 hts gX8_does_X8_isWhole rfl rfl rfl (by decide +kernel) ⟨Nat.le_of_ble_eq_true rfl, Nat.le_of_ble_eq_true rfl⟩) hK hN (hP.sub [3] rfl) rfl hl.1 rfl (Nat.le_of_ble_eq_true rfl) dX8_does_74 ⟨Nat.zero_le _, Nat.zero_le _⟩ ?_
            refine lv_if_eq (tgt := 84) hx hb dX8_does_77 (by decide) (fun c21 => ?_) (fun c21 => ?_)
            · have hf := g_pos c21 hf
              exact J84 (a1 - a1 / (10 : Int32) * (10 : Int32)) f_trial H locs ls hf (lv_sub hl [3, 0] rfl) hP hD hS
            · have hf := g_neg c21 hf
              refine lv_iconst (v := (1 : Int32)) hx hb dX8_does_80 (by decide) ?_
              refine lv_goto (tgt := 85) hx hb dX8_does_81 (by decide) ?_
              exact J85 (a1 - a1 / (10 : Int32) * (10 : Int32)) (1 : Int32) f_trial H locs ls hf (lv_sub hl [3, 0] rfl) hP hD hS
    · have hf := g_pos c6 hf
      refine lv_aload_n hx hb dX8_does_39 rfl (lv_at hl 3 rfl) ?_
      refine lv_aload_n hx hb dX8_does_40 rfl (lv_at hl 3 rfl) ?_
      refine va_get (D := (dC, dI)) (ci := 8) (v := .ref o_trial) (C := RX8) (T := TX8) (N := 33) hx hb hts hiX8 hown hK hP 0 rfl rfl 11 (by decide) (hts (.fieldLink RX8 25 "GreenJarsModel" "trial" "[I") (by decide +kernel)) (fun _ h9 => h9) rfl dX8_does_41 ?_
      obtain ⟨r22, y23, hc24, hf⟩ := g_b2 hf
      refine g_wV (As := [.ref o_trial]) (rest := []) (wr := []) (wn := (w_X8_does cI cZ cG o o_text o_kind o_size o_readJar o_page o_trial o_book o_kept o_isKept o_tastedFrom o_tastedTo o_order o_spots o_gains o_value v_thrown v_textSize v_place v_jars v_readPlaces v_readJars v_acts v_tasted v_seed v_some v_rowMany v_rowWay v_stuffWhich v_stuffNear v_keptMany v_keptFirst v_restMany v_restFirst f_kind f_size y23)) ⟨hx, hb, hml, hown, hts⟩ (c_X8_goShake l dC dI cI cZ cG o o_text o_kind o_size o_readJar o_page o_trial o_book o_kept o_isKept o_tastedFrom o_tastedTo o_order o_spots o_gains o_value o_trial H.size  v_thrown v_textSize v_place v_jars v_readPlaces v_readJars v_acts v_tasted v_seed v_some v_rowMany v_rowWay v_stuffWhich v_stuffNear v_keptMany v_keptFirst v_restMany v_restFirst f_kind f_size f_trial hc24) (cwV 1 hts gX8_does_X8_goShake rfl rfl rfl (by decide +kernel) ⟨Nat.le_of_ble_eq_true rfl, Nat.le_of_ble_eq_true rfl⟩) hK hN hP hD hS hA [0, 1, 2, 3] [] [0, 1, 2, 3] rfl rfl (by decide) rfl (by decide) (by decide) rfl (by decide) (va_recv hK hP (ci := 8) (q0 := 0) rfl rfl) rfl hl.1 rfl (Nat.le_of_ble_eq_true rfl) dX8_does_44 ⟨Nat.zero_le _, Nat.zero_le _⟩ (fun H locs hP hD hS => ?_)
      refine lv_pop hx hb dX8_does_47 rfl ?_
      refine lv_iconst (v := (1 : Int32)) hx hb dX8_does_48 (by decide) ?_
      rw [hQ]
      cases hf
      exact W.zret hx hb hr (by decide +kernel) (fun t ht hW => ⟨⟨_, (), rfl, rfl, by rw [ht]; exact hP, va_K.moved hW.alike hK, hD⟩, hS.F ht⟩) hS.2.2 dX8_does_49
  · have hf := g_pos c5 hf
    refine lv_aload_n hx hb dX8_does_23 rfl (lv_at hl 3 rfl) ?_
    refine lv_aload_n hx hb dX8_does_24 rfl (lv_at hl 3 rfl) ?_
    refine va_get (D := (dC, dI)) (ci := 8) (v := .ref o_trial) (C := RX8) (T := TX8) (N := 33) hx hb hts hiX8 hown hK hP 0 rfl rfl 11 (by decide) (hts (.fieldLink RX8 25 "GreenJarsModel" "trial" "[I") (by decide +kernel)) (fun _ h9 => h9) rfl dX8_does_25 ?_
    obtain ⟨y25, hc26, hf⟩ := g_b1 hf
    refine g_wVv (As := [.ref o_trial]) (rest := []) (wr := [(o_size, .inl (cI, 6, .inl f_size))]) (wn := (w_X8_does cI cZ cG o o_text o_kind o_size o_readJar o_page o_trial o_book o_kept o_isKept o_tastedFrom o_tastedTo o_order o_spots o_gains o_value v_thrown v_textSize v_place v_jars v_readPlaces v_readJars v_acts v_tasted v_seed v_some v_rowMany v_rowWay v_stuffWhich v_stuffNear v_keptMany v_keptFirst v_restMany v_restFirst f_kind f_size y25)) ⟨hx, hb, hml, hown, hts⟩ (c_X8_goWeek l dC dI cI cZ cG o o_text o_kind o_size o_readJar o_page o_trial o_book o_kept o_isKept o_tastedFrom o_tastedTo o_order o_spots o_gains o_value o_trial H.size  v_thrown v_textSize v_place v_jars v_readPlaces v_readJars v_acts v_tasted v_seed v_some v_rowMany v_rowWay v_stuffWhich v_stuffNear v_keptMany v_keptFirst v_restMany v_restFirst f_kind f_trial hc26) (cwV 1 hts gX8_does_X8_goWeek rfl rfl rfl (by decide +kernel) ⟨Nat.le_of_ble_eq_true rfl, Nat.le_of_ble_eq_true rfl⟩) hK hN hP hD hS hA [0, 1, 3] [2] [1, 2, 0, 3] rfl rfl (by decide) rfl (by decide) (by decide) rfl (by decide) (va_recv hK hP (ci := 8) (q0 := 0) rfl rfl) rfl hl.1 rfl (Nat.le_of_ble_eq_true rfl) dX8_does_28 ⟨Nat.zero_le _, Nat.zero_le _⟩ (fun H locs hP hD hS => ?_)
    refine lv_iconst (v := (1 : Int32)) hx hb dX8_does_31 (by decide) ?_
    rw [hQ]
    cases hf
    exact W.zret hx hb hr (by decide +kernel) (fun t ht hW => ⟨⟨_, (), rfl, rfl, by rw [ht]; exact hP, va_K.moved hW.alike hK, hD⟩, hS.F ht⟩) hS.2.2 dX8_does_32
