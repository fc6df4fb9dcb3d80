section
variable {x_byteCount x_wrongPlace x_at x_frameCount x_kindCount x_valueCount x_activeCount x_goesOn x_outcome x_trapPlace x_fuelUsed x_firstWaiting x_waitingCount x_printCount : Int32} {x_resultValue : Int64} {x_code x_facts x_partner x_loaded x_memories x_frameAt x_frameHeight x_frameResult x_frameDead x_kinds x_activeSlot x_activeGives x_activeFrame x_activeResume x_waiting x_prints : Nat → Int32} {x_globals x_values x_variables : Nat → Int64}
variable {y_count y_place y_m y_pos y_wrong y_least y_top y_frames y_invalid y_sp y_labels y_active y_fuel y_outcome y_trappedAt y_used y_waits y_printed : Int32} {y_constant y_result : Int64} {y_bytes y_there y_types y_typeSig y_imports y_functions y_sig y_what y_typeAt y_localsAt y_globals y_globalKind y_globalFree y_entries y_entriesAt y_hasMemory y_memory y_nest y_kinds y_shape y_gives y_height y_dead y_labelAt y_labelHeight y_labelGives y_callModule y_callFunction y_callBack y_callBase y_callLabels y_waiting y_prints : Nat → Int32} {y_globalValue y_stack : Nat → Int64}
variable {B : Nat → Bool} {C : Nat → Nat → Nat} {N : Nat → Nat} {PP : Nat → Nat → Nat} {n : Nat} {cd : Nat → Nat} {s : Nat}
theorem wo_m {XM YM : Nat → Int32} {b : Nat → Nat} {A len : Nat} (W : wo_ok B C N PP n cd x_byteCount x_wrongPlace x_firstWaiting x_waitingCount x_printCount x_code x_facts x_partner x_loaded x_globals x_memories x_waiting x_prints y_count y_place y_waits y_printed y_bytes y_there y_types y_typeSig y_imports y_functions y_sig y_what y_localsAt y_globals y_globalValue y_entries y_entriesAt y_hasMemory y_memory y_waiting y_prints) (hs : s < 2) (hA : A + len ≤ 48) (hb : ∀ j, b j < 256) (x1 : ∀ j, j < len → XM (s * 48 + A + j) = nI (b j)) (x2 : ∀ j, ¬ (s * 48 + A ≤ j ∧ j < s * 48 + A + len) → XM j = x_memories j) (y1 : ∀ j, j < len → YM (48 * s + A + j) = sb_v (b j)) (y2 : ∀ j, ¬ (48 * s + A ≤ j ∧ j < 48 * s + A + len) → YM j = y_memory j) :
    wo_ok B C N PP n cd x_byteCount x_wrongPlace x_firstWaiting x_waitingCount x_printCount x_code x_facts x_partner x_loaded x_globals XM x_waiting x_prints y_count y_place y_waits y_printed y_bytes y_there y_types y_typeSig y_imports y_functions y_sig y_what y_localsAt y_globals y_globalValue y_entries y_entriesAt y_hasMemory YM y_waiting y_prints := by
  obtain ⟨w1, w2, w3, w4, w5, w6, w7, w8, w9, w10, w11, w12⟩ := W
  refine ⟨w1, w2, w3, w4, w5, w6, w7, w8, w9, w10, w11, fun s' hs' hB' => ?_⟩
  obtain ⟨d1, d2⟩ := w12 s' hs' hB'
  refine ⟨d1, fun j hj => ?_⟩
  by_cases z : s' = s ∧ A ≤ j ∧ j < A + len
  · obtain ⟨z1, z2, z3⟩ := z
    subst z1
    refine ⟨b (j - A), hb _, ?_, ?_⟩
    · have := x1 (j - A) (by omega)
      rw [show s' * 48 + A + (j - A) = s' * 48 + j by omega] at this
      exact this
    · have := y1 (j - A) (by omega)
      rw [show 48 * s' + A + (j - A) = 48 * s' + j by omega] at this
      exact this
  · rw [x2 _ (by omega), y2 _ (by omega)]
    exact d2 j hj
theorem wo_p {PC : Int32} {PR : Nat → Int32} (W : wo_ok B C N PP n cd x_byteCount x_wrongPlace x_firstWaiting x_waitingCount x_printCount x_code x_facts x_partner x_loaded x_globals x_memories x_waiting x_prints y_count y_place y_waits y_printed y_bytes y_there y_types y_typeSig y_imports y_functions y_sig y_what y_localsAt y_globals y_globalValue y_entries y_entriesAt y_hasMemory y_memory y_waiting y_prints) : wo_ok B C N PP n cd x_byteCount x_wrongPlace x_firstWaiting x_waitingCount PC x_code x_facts x_partner x_loaded x_globals x_memories x_waiting PR y_count y_place y_waits PC y_bytes y_there y_types y_typeSig y_imports y_functions y_sig y_what y_localsAt y_globals y_globalValue y_entries y_entriesAt y_hasMemory y_memory y_waiting PR := by
  obtain ⟨w1, w2, w3, w4, w5, w6, w7, w8, w9, w10, w11, w12⟩ := W
  exact ⟨w1, w2, w3, w4, w5, w6, rfl, rfl, w9, w10, w11, w12⟩
theorem wo_i {w f : Nat} {WB : Nat → Int32} (W : wo_ok B C N PP n cd x_byteCount x_wrongPlace x_firstWaiting x_waitingCount x_printCount x_code x_facts x_partner x_loaded x_globals x_memories x_waiting x_prints y_count y_place y_waits y_printed y_bytes y_there y_types y_typeSig y_imports y_functions y_sig y_what y_localsAt y_globals y_globalValue y_entries y_entriesAt y_hasMemory y_memory y_waiting y_prints) (hw : w < 8) (hf : f < 8) (h0 : ∀ i, i < w + 1 → x_waiting ((f + i) % 8) = y_waiting i) (h1 : ∀ i, i < w → WB i = y_waiting (i + 1)) : wo_ok B C N PP n cd x_byteCount x_wrongPlace (nI ((f + 1) % 8)) (nI w) x_printCount x_code x_facts x_partner x_loaded x_globals x_memories x_waiting x_prints y_count y_place (nI w) y_printed y_bytes y_there y_types y_typeSig y_imports y_functions y_sig y_what y_localsAt y_globals y_globalValue y_entries y_entriesAt y_hasMemory y_memory WB y_prints := by
  obtain ⟨w1, w2, w3, w4, w5, w6, w7, w8, w9, w10, w11, w12⟩ := W
  refine ⟨w1, w2, w3, w4, w5, w6, w7, w8, ⟨w, (f + 1) % 8, rfl, rfl, by omega, rfl, by omega, fun i hi => ?_⟩, w10, w11, w12⟩
  rw [h1 i hi, ← h0 (i + 1) (by omega), show ((f + 1) % 8 + i) % 8 = (f + (i + 1)) % 8 by omega]
end
theorem sx_z (z : Int32) : sx64 z.toInt64 := by unfold sx64; rw [Int32.toInt32_toInt64]
