section
variable {y_count y_place y_m y_pos y_wrong y_least y_top y_frames y_invalid y_sp y_labels y_active y_fuel y_outcome y_trappedAt y_used y_waits y_printed : Int32} {y_constant y_result : Int64} {y_bytes y_there y_types y_typeSig y_imports y_functions y_sig y_what y_typeAt y_localsAt y_globals y_globalKind y_globalFree y_entries y_entriesAt y_hasMemory y_memory y_nest y_kinds y_shape y_gives y_height y_dead y_labelAt y_labelHeight y_labelGives y_callModule y_callFunction y_callBack y_callBase y_callLabels y_waiting y_prints : Nat → Int32} {y_globalValue y_stack : Nat → Int64}
variable {post : Int32 → SY → Prop} {t f a np nl sgv b lb bk g lat : Nat} {c : Nat → Nat}
theorem y_beg_l (ht : t < 2) (hf : f < 7) (hsg : sgv < 1024) (hg : sgv / 256 = g) (hg2 : g ≤ 2) (hb : b + nl < 320) (eL : y_labels = nI lb) (hlb : lb < 100) (eT : y_localsAt (7 * t + f) = nI lat)
    (h : post (nI (lat + 1 + nl)) (y_count, y_place, y_m, y_pos, y_wrong, y_constant, y_least, y_top, y_frames, y_invalid, nI (b + nl), nI (lb + 1), y_active, y_fuel, y_outcome, y_trappedAt, y_result, y_used, y_waits, y_printed, y_bytes, y_there, y_types, y_typeSig, y_imports, y_functions, y_sig, y_what, y_typeAt, y_localsAt, y_globals, y_globalKind, y_globalFree, y_globalValue, y_entries, y_entriesAt, y_hasMemory, y_memory, y_nest, y_kinds, y_shape, y_gives, y_height, y_dead, pfill y_stack b (fun _ => 0) nl, upd y_labelAt lb (-1), upd y_labelHeight lb (nI (b + nl)), upd y_labelGives lb (nI g), y_callModule, y_callFunction, y_callBack, y_callBase, y_callLabels, y_waiting, y_prints)) :
    ∀ r i l, i + r = nl → r < l → wY_begin_115 post (nI t) (nI f) (nI sgv) (nI nl) l (nI i) y_count y_place y_m y_pos y_wrong y_constant y_least y_top y_frames y_invalid (nI (b + i)) y_labels y_active y_fuel y_outcome y_trappedAt y_result y_used y_waits y_printed y_bytes y_there y_types y_typeSig y_imports y_functions y_sig y_what y_typeAt y_localsAt y_globals y_globalKind y_globalFree y_globalValue y_entries y_entriesAt y_hasMemory y_memory y_nest y_kinds y_shape y_gives y_height y_dead (pfill y_stack b (fun _ => 0) i) y_labelAt y_labelHeight y_labelGives y_callModule y_callFunction y_callBack y_callBase y_callLabels y_waiting y_prints := by
  have e7 : 7 * nI t + nI f = nI (7 * t + f) := by rw [show (7 : Int32) = nI 7 from rfl, pk_mul, nI_add]
  intro r
  induction r with
  | zero =>
    intro i l hi hl
    obtain ⟨l, rfl⟩ : ∃ j, l = j + 1 := ⟨l - 1, by omega⟩
    have : i = nl := by omega
    subst this
    refine pk_le i i (fun _ => ?_) (fun z => absurd z (by omega))
    refine y_gift hsg ?_
    rw [hg]
    refine y_label lb (b + i) g hlb (by omega) (by omega) eL rfl rfl (z := -1) (by decide) ⟨pk_in (7 * t + f) 21 (by omega) e7, ?_⟩
    refine eq_p (P := fun z => post z _) (show _ = nI (lat + 1 + i) from ?_) h
    rw [pk_cl (7 * t + f) e7, eT, nI_1, nI_add]
  | succ r ih =>
    intro i l hi hl
    obtain ⟨l, rfl⟩ : ∃ j, l = j + 1 := ⟨l - 1, by omega⟩
    refine pk_le nl i (fun z => absurd z (by omega)) (fun _ => ?_)
    exact y_push (b + i) (by omega) rfl (nm_r (nI_1 i) (ih (i + 1) l (by omega) (by omega)))
theorem y_begin (ht : t < 2) (hf : f < 7) (ha : a < 10) (eA : y_active = nI a) (eS : y_sig (7 * t + f) = nI sgv) (hsg : sgv < 1024) (hnp : sgv % 4 = np) (hg : sgv / 256 = g) (hg2 : g ≤ 2) (eP : y_sp = nI (b + np)) (hb : b + np + nl < 320) (eL : y_labels = nI lb) (hlb : lb < 100) (hbk : bk < 30000) (eT : y_localsAt (7 * t + f) = nI lat) (hlat : lat < 140) (eB : y_bytes (140 * t + lat) = nI (c lat)) (hnl : nl = c lat) (hc : c lat < 256)
    (h : post (nI (lat + 1 + nl)) (y_count, y_place, nI t, y_pos, y_wrong, y_constant, y_least, y_top, y_frames, y_invalid, nI (b + np + nl), nI (lb + 1), nI (a + 1), y_fuel, y_outcome, y_trappedAt, y_result, y_used, y_waits, y_printed, y_bytes, y_there, y_types, y_typeSig, y_imports, y_functions, y_sig, y_what, y_typeAt, y_localsAt, y_globals, y_globalKind, y_globalFree, y_globalValue, y_entries, y_entriesAt, y_hasMemory, y_memory, y_nest, y_kinds, y_shape, y_gives, y_height, y_dead, pfill y_stack (b + np) (fun _ => 0) nl, upd y_labelAt lb (-1), upd y_labelHeight lb (nI (b + np + nl)), upd y_labelGives lb (nI g), upd y_callModule a (nI t), upd y_callFunction a (nI f), upd y_callBack a (nI bk), upd y_callBase a (nI b), upd y_callLabels a (nI lb), y_waiting, y_prints)) : wpY_begin post (y_count, y_place, y_m, y_pos, y_wrong, y_constant, y_least, y_top, y_frames, y_invalid, y_sp, y_labels, y_active, y_fuel, y_outcome, y_trappedAt, y_result, y_used, y_waits, y_printed, y_bytes, y_there, y_types, y_typeSig, y_imports, y_functions, y_sig, y_what, y_typeAt, y_localsAt, y_globals, y_globalKind, y_globalFree, y_globalValue, y_entries, y_entriesAt, y_hasMemory, y_memory, y_nest, y_kinds, y_shape, y_gives, y_height, y_dead, y_stack, y_labelAt, y_labelHeight, y_labelGives, y_callModule, y_callFunction, y_callBack, y_callBase, y_callLabels, y_waiting, y_prints) (nI t) (nI f) (nI bk) := by
  subst eA eP eL
  have e7 : 7 * nI t + nI f = nI (7 * t + f) := by rw [show (7 : Int32) = nI 7 from rfl, pk_mul, nI_add]
  refine ⟨pk_in (7 * t + f) 21 (by omega) e7, nm_r (show _ = nI sgv from by rw [pk_cl (7 * t + f) e7]; exact eS) ⟨pk_in a 11 (by omega), nm_r (show _ = upd y_callModule a (nI t) from by rw [pk_cl a, nr_b (by omega)]) ⟨pk_in a 11 (by omega), nm_r (show _ = upd y_callFunction a (nI f) from by rw [pk_cl a, nr_b (by omega)]) ⟨pk_in a 11 (by omega), nm_r (show _ = upd y_callBack a (nI bk) from by rw [pk_cl a, nr_s (by omega)]) ?_⟩⟩⟩⟩
  refine y_params hsg ?_
  rw [hnp]
  refine ⟨pk_in a 11 (by omega), nm_r (show _ = upd y_callBase a (nI b) from by rw [pk_cl a, pk_sub (by omega), Nat.add_sub_cancel, nr_s (by omega)]) ⟨pk_in a 11 (by omega), nm_r (show _ = upd y_callLabels a (nI lb) from by rw [pk_cl a, nr_s (by omega)]) (nm_r (nI_1 a) ⟨pk_in (7 * t + f) 21 (by omega) e7, ?_⟩)⟩⟩
  refine eq_p (P := fun z => wpY_at _ _ z) (show _ = nI lat from by rw [pk_cl (7 * t + f) e7]; exact eT) ?_
  refine yr_at (c := c) (m := t) rfl (by omega) hlat eB ⟨nl + 1, ?_⟩
  rw [← hnl]
  exact y_beg_l (b := b + np) ht hf hsg hg hg2 hb rfl hlb eT h nl 0 (nl + 1) (by omega) (by omega)
end
section
variable {y_count y_place y_m y_pos y_wrong y_least y_top y_frames y_invalid y_sp y_labels y_active y_fuel y_outcome y_trappedAt y_used y_waits y_printed : Int32} {y_constant y_result : Int64} {y_bytes y_there y_types y_typeSig y_imports y_functions y_sig y_what y_typeAt y_localsAt y_globals y_globalKind y_globalFree y_entries y_entriesAt y_hasMemory y_memory y_nest y_kinds y_shape y_gives y_height y_dead y_labelAt y_labelHeight y_labelGives y_callModule y_callFunction y_callBack y_callBase y_callLabels y_waiting y_prints : Nat → Int32} {y_globalValue y_stack : Nat → Int64}
variable {post : SY → Prop} {i w : Nat}
def wshift (W : Nat → Int32) : Nat → (Nat → Int32)
  | 0 => W
  | k + 1 => upd (wshift W k) k (W (k + 1))
theorem ws_hi {W : Nat → Int32} : ∀ k j, k ≤ j → wshift W k j = W j := by
  intro k
  induction k with
  | zero => intro j _; rfl
  | succ k ih => intro j hj; rw [wshift, pk_un (by omega)]; exact ih j (by omega)
theorem ws_lo {W : Nat → Int32} : ∀ k j, j < k → wshift W k j = W (j + 1) := by
  intro k
  induction k with
  | zero => intro j hj; exact absurd hj (by omega)
  | succ k ih =>
    intro j hj
    rw [wshift]
    by_cases z : j = k
    · subst z; exact pk_us
    · rw [pk_un z]; exact ih j (by omega)
theorem y_in_l (hw : w < 8) (eW : y_waits = nI w) (h : post (y_count, y_place, y_m, y_pos, y_wrong, y_constant, y_least, y_top, y_frames, y_invalid, y_sp, y_labels, y_active, y_fuel, y_outcome, y_trappedAt, y_result, y_used, y_waits, y_printed, y_bytes, y_there, y_types, y_typeSig, y_imports, y_functions, y_sig, y_what, y_typeAt, y_localsAt, y_globals, y_globalKind, y_globalFree, y_globalValue, y_entries, y_entriesAt, y_hasMemory, y_memory, y_nest, y_kinds, y_shape, y_gives, y_height, y_dead, y_stack, y_labelAt, y_labelHeight, y_labelGives, y_callModule, y_callFunction, y_callBack, y_callBase, y_callLabels, wshift y_waiting w, y_prints)) : ∀ r k l, k + r = w → r < l → wY_input_44 post y_count y_place y_m y_pos y_wrong y_constant y_least y_top y_frames y_invalid y_sp y_labels y_active y_fuel y_outcome y_trappedAt y_result y_used y_waits y_printed l (nI k) y_bytes y_there y_types y_typeSig y_imports y_functions y_sig y_what y_typeAt y_localsAt y_globals y_globalKind y_globalFree y_globalValue y_entries y_entriesAt y_hasMemory y_memory y_nest y_kinds y_shape y_gives y_height y_dead y_stack y_labelAt y_labelHeight y_labelGives y_callModule y_callFunction y_callBack y_callBase y_callLabels (wshift y_waiting k) y_prints := by
  subst eW
  intro r
  induction r with
  | zero =>
    intro k l hk hl
    obtain ⟨l, rfl⟩ : ∃ j, l = j + 1 := ⟨l - 1, by omega⟩
    have : k = w := by omega
    subst this
    exact pk_le k k (fun _ => h) (fun z => absurd z (by omega))
  | succ r ih =>
    intro k l hk hl
    obtain ⟨l, rfl⟩ : ∃ j, l = j + 1 := ⟨l - 1, by omega⟩
    refine pk_le w k (fun z => absurd z (by omega)) (fun _ => ⟨pk_in (k + 1) 8 (by omega) (nI_1 k), pk_in k 8 (by omega), nm_r (show _ = wshift y_waiting (k + 1) from ?_) (nm_r (nI_1 k) (ih (k + 1) l (by omega) (by omega)))⟩)
    rw [wshift, pk_cl k, pk_cl (k + 1) (nI_1 k), ws_hi k (k + 1) (by omega)]
theorem y_input (hw : w ≤ 8) (eW : y_waits = nI w) (hi : i < 320) (eP : y_sp = nI i) (h0 : w = 0 → post (y_count, y_place, y_m, y_pos, y_wrong, y_constant, y_least, y_top, y_frames, y_invalid, nI (i + 1), y_labels, y_active, y_fuel, y_outcome, y_trappedAt, y_result, y_used, y_waits, y_printed, y_bytes, y_there, y_types, y_typeSig, y_imports, y_functions, y_sig, y_what, y_typeAt, y_localsAt, y_globals, y_globalKind, y_globalFree, y_globalValue, y_entries, y_entriesAt, y_hasMemory, y_memory, y_nest, y_kinds, y_shape, y_gives, y_height, y_dead, vp_updL y_stack i (-1), y_labelAt, y_labelHeight, y_labelGives, y_callModule, y_callFunction, y_callBack, y_callBase, y_callLabels, y_waiting, y_prints)) (h1 : w ≠ 0 → post (y_count, y_place, y_m, y_pos, y_wrong, y_constant, y_least, y_top, y_frames, y_invalid, nI (i + 1), y_labels, y_active, y_fuel, y_outcome, y_trappedAt, y_result, y_used, nI (w - 1), y_printed, y_bytes, y_there, y_types, y_typeSig, y_imports, y_functions, y_sig, y_what, y_typeAt, y_localsAt, y_globals, y_globalKind, y_globalFree, y_globalValue, y_entries, y_entriesAt, y_hasMemory, y_memory, y_nest, y_kinds, y_shape, y_gives, y_height, y_dead, vp_updL y_stack i (y_waiting 0).toInt64, y_labelAt, y_labelHeight, y_labelGives, y_callModule, y_callFunction, y_callBack, y_callBase, y_callLabels, wshift y_waiting (w - 1), y_prints)) : wpY_input post (y_count, y_place, y_m, y_pos, y_wrong, y_constant, y_least, y_top, y_frames, y_invalid, y_sp, y_labels, y_active, y_fuel, y_outcome, y_trappedAt, y_result, y_used, y_waits, y_printed, y_bytes, y_there, y_types, y_typeSig, y_imports, y_functions, y_sig, y_what, y_typeAt, y_localsAt, y_globals, y_globalKind, y_globalFree, y_globalValue, y_entries, y_entriesAt, y_hasMemory, y_memory, y_nest, y_kinds, y_shape, y_gives, y_height, y_dead, y_stack, y_labelAt, y_labelHeight, y_labelGives, y_callModule, y_callFunction, y_callBack, y_callBase, y_callLabels, y_waiting, y_prints) := by
  subst eW
  refine pk_eq w 0 (fun z => ?_) (fun z => ?_)
  · refine y_push i hi eP (pk_eq w 0 (fun _ => h0 z) (fun y => absurd z y))
  · refine y_push i hi eP (pk_eq w 0 (fun y => absurd y z) (fun _ => nm_r (nI_p w z) ⟨w, ?_⟩))
    exact y_in_l (w := w - 1) (by omega) rfl (h1 z) (w - 1) 0 w (by omega) (by omega)
end
