theorem lk_z0 {l l' : Bool} {c : Nat → Nat} {n : Nat} {c0 c0' : Nat → Nat} {n0 n0' k : Nat} (h : lk_ok 0 l c n c0 n0 k) : lk_ok 0 l' c n c0' n0' k := by
  unfold lk_ok at h ⊢
  by_cases z : c (m_im c n k + 1) = 16
  · rw [if_pos z] at h ⊢; exact h
  · rw [if_neg z] at h ⊢
    by_cases z2 : c (m_im c n k + 1) = 17
    · rw [if_pos z2] at h ⊢; exact h
    · rw [if_neg z2] at h; exact absurd h.1 (by decide)
section
variable {x_byteCount x_wrongPlace x_at x_frameCount x_kindCount x_valueCount x_activeCount x_goesOn x_outcome x_trapPlace x_fuelUsed x_firstWaiting x_waitingCount x_printCount : Int32} {x_resultValue : Int64} {x_code x_facts x_partner x_loaded x_memories x_frameAt x_frameHeight x_frameResult x_frameDead x_kinds x_activeSlot x_activeGives x_activeFrame x_activeResume x_waiting x_prints : Nat → Int32} {x_globals x_values x_variables : Nat → Int64}
variable {y_count y_place y_m y_pos y_wrong y_least y_top y_frames y_invalid y_sp y_labels y_active y_fuel y_outcome y_trappedAt y_used y_waits y_printed : Int32} {y_constant y_result : Int64} {y_bytes y_there y_types y_typeSig y_imports y_functions y_sig y_what y_typeAt y_localsAt y_globals y_globalKind y_globalFree y_entries y_entriesAt y_hasMemory y_memory y_nest y_kinds y_shape y_gives y_height y_dead y_labelAt y_labelHeight y_labelGives y_callModule y_callFunction y_callBack y_callBase y_callLabels y_waiting y_prints : Nat → Int32} {y_globalValue y_stack : Nat → Int64}
theorem rl_wo (h : rl_ok x_byteCount x_wrongPlace x_resultValue x_trapPlace x_fuelUsed x_firstWaiting x_waitingCount x_printCount x_code x_facts x_partner x_loaded x_globals x_memories x_waiting x_prints y_count y_place y_trappedAt y_result y_used y_waits y_printed y_bytes y_there y_types y_typeSig y_imports y_functions y_sig y_what y_localsAt y_globals y_globalValue y_entries y_entriesAt y_hasMemory y_memory y_waiting y_prints) : ∃ B C N PP n cd, wo_ok B C N PP n cd x_byteCount x_wrongPlace x_firstWaiting x_waitingCount x_printCount x_code x_facts x_partner x_loaded x_globals x_memories x_waiting x_prints y_count y_place y_waits y_printed y_bytes y_there y_types y_typeSig y_imports y_functions y_sig y_what y_localsAt y_globals y_globalValue y_entries y_entriesAt y_hasMemory y_memory y_waiting y_prints := by
  obtain ⟨n, cd, b0, b1, c0, n0, P0, c1, n1, P1, h1, h2, h3, h4, h5, h6, h7, h8, h9, h10, h11, h12, h13, h14, h15, h16, h17, h18⟩ := h
  refine ⟨(fun s => match s with | 0 => b0 | _ + 1 => b1), (fun s => match s with | 0 => c0 | _ + 1 => c1), (fun s => match s with | 0 => n0 | _ + 1 => n1), (fun s => match s with | 0 => P0 | _ + 1 => P1), n, cd, h1, h2, h3, h4, h5, h6, h10, h11, h12, fun s hs => ?_, fun s hs hB => ?_, fun s hs hB => ?_⟩
  · have z : s = 0 ∨ s = 1 := by omega
    rcases z with rfl | rfl
    · exact ⟨h13, h14⟩
    · exact ⟨h15, h16⟩
  · have z : s = 0 ∨ s = 1 := by omega
    rcases z with rfl | rfl
    · obtain ⟨⟨a1, a2, a3, a4⟩, a5⟩ := h17 hB
      exact ⟨a1, a2, a3, fun k hk => lk_z0 (a5 k hk)⟩
    · obtain ⟨⟨a1, a2, a3, a4⟩, a5⟩ := h18 hB
      exact ⟨a1, a2, a3, a5⟩
  · have z : s = 0 ∨ s = 1 := by omega
    rcases z with rfl | rfl
    · exact (h17 hB).1.2.2.2
    · exact (h18 hB).1.2.2.2
theorem wo_rl {B : Nat → Bool} {C : Nat → Nat → Nat} {N : Nat → Nat} {PP : Nat → Nat → Nat} {n : Nat} {cd : Nat → Nat} (W : wo_ok B C N PP n cd x_byteCount x_wrongPlace x_firstWaiting x_waitingCount x_printCount x_code x_facts x_partner x_loaded x_globals x_memories x_waiting x_prints y_count y_place y_waits y_printed y_bytes y_there y_types y_typeSig y_imports y_functions y_sig y_what y_localsAt y_globals y_globalValue y_entries y_entriesAt y_hasMemory y_memory y_waiting y_prints) (e1 : x_resultValue = y_result) (e2 : x_trapPlace = y_trappedAt) (e3 : x_fuelUsed = y_used) : rl_ok x_byteCount x_wrongPlace x_resultValue x_trapPlace x_fuelUsed x_firstWaiting x_waitingCount x_printCount x_code x_facts x_partner x_loaded x_globals x_memories x_waiting x_prints y_count y_place y_trappedAt y_result y_used y_waits y_printed y_bytes y_there y_types y_typeSig y_imports y_functions y_sig y_what y_localsAt y_globals y_globalValue y_entries y_entriesAt y_hasMemory y_memory y_waiting y_prints := by
  obtain ⟨w1, w2, w3, w4, w5, w6, w7, w8, w9, w10, w11, w12⟩ := W
  refine ⟨n, cd, B 0, B 1, C 0, N 0, PP 0, C 1, N 1, PP 1, w1, w2, w3, w4, w5, w6, e1, e2, e3, w7, w8, w9, (w10 0 (by omega)).1, (w10 0 (by omega)).2, (w10 1 (by omega)).1, (w10 1 (by omega)).2, fun hB => ?_, fun hB => ?_⟩
  · obtain ⟨a1, a2, a3, a4⟩ := w11 0 (by omega) hB
    exact ⟨⟨a1, a2, a3, w12 0 (by omega) hB⟩, fun k hk => lk_z0 (a4 k hk)⟩
  · obtain ⟨a1, a2, a3, a4⟩ := w11 1 (by omega) hB
    exact ⟨⟨a1, a2, a3, w12 1 (by omega) hB⟩, a4⟩
end
