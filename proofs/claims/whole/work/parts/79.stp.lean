section
variable {x_byteCount x_wrongPlace x_at x_frameCount x_kindCount x_valueCount x_activeCount x_goesOn x_outcome x_trapPlace x_fuelUsed x_firstWaiting x_waitingCount x_printCount : Int32} {x_resultValue : Int64} {x_code x_facts x_partner x_loaded x_memories x_frameAt x_frameHeight x_frameResult x_frameDead x_kinds x_activeSlot x_activeGives x_activeFrame x_activeResume x_waiting x_prints : Nat → Int32} {x_globals x_values x_variables : Nat → Int64}
variable {y_count y_place y_m y_pos y_wrong y_least y_top y_frames y_invalid y_sp y_labels y_active y_fuel y_outcome y_trappedAt y_used y_waits y_printed : Int32} {y_constant y_result : Int64} {y_bytes y_there y_types y_typeSig y_imports y_functions y_sig y_what y_typeAt y_localsAt y_globals y_globalKind y_globalFree y_entries y_entriesAt y_hasMemory y_memory y_nest y_kinds y_shape y_gives y_height y_dead y_labelAt y_labelHeight y_labelGives y_callModule y_callFunction y_callBack y_callBase y_callLabels y_waiting y_prints : Nat → Int32} {y_globalValue y_stack : Nat → Int64}
variable {B : Nat → Bool} {C : Nat → Nat → Nat} {N : Nat → Nat} {PP : Nat → Nat → Nat} {n : Nat} {cd : Nat → Nat} {g0 fu s f nv g p : Nat} {E : List ev} {L : Nat → Int64} {F : List vt_Fr} {R : List ac}
variable {post : SX → Prop}
theorem stp (W : wo_ok B C N PP n cd x_byteCount x_wrongPlace x_firstWaiting x_waitingCount x_printCount x_code x_facts x_partner x_loaded x_globals x_memories x_waiting x_prints y_count y_place y_waits y_printed y_bytes y_there y_types y_typeSig y_imports y_functions y_sig y_what y_localsAt y_globals y_globalValue y_entries y_entriesAt y_hasMemory y_memory y_waiting y_prints) (hfu : fu ≤ 120) (hR : R.length < 10) (AO : a_ok B C N PP 0 s f nv g p E L F) (CR : ch_ok B C N PP g0 g R) (XA : xa_ok x_frameAt x_frameHeight x_values x_variables x_activeSlot x_activeGives x_activeFrame ((s, f, nv, g, p, E, L, F) :: R)) (AR : ar_ok x_activeResume R) (YA : ya_ok y_stack y_labelAt y_labelHeight y_labelGives y_callModule y_callFunction y_callBack y_callBase y_callLabels ((s, f, nv, g, p, E, L, F) :: R)) (h : ∀ u' v' q, nxt B C N PP n cd g0 (mu ((s, f, nv, g, p, E, L, F) :: R) fu) u' v' q → ystep (y_count, y_place, nI s, y_pos, y_wrong, y_constant, y_least, y_top, y_frames, y_invalid, nI (yb R + nv + E.length), nI (fb R + F.length), nI (R.length + 1), nI (120 - fu), 0, -1, y_result, y_used, y_waits, y_printed, y_bytes, y_there, y_types, y_typeSig, y_imports, y_functions, y_sig, y_what, y_typeAt, y_localsAt, y_globals, y_globalKind, y_globalFree, y_globalValue, y_entries, y_entriesAt, y_hasMemory, y_memory, y_nest, y_kinds, y_shape, y_gives, y_height, y_dead, y_stack, y_labelAt, y_labelHeight, y_labelGives, y_callModule, y_callFunction, y_callBack, y_callBase, y_callLabels, y_waiting, y_prints) v' (nI p) q → post u') : wpX_step post (x_byteCount, x_wrongPlace, nI p, nI (fb R + F.length), x_kindCount, nI (vb R + E.length), nI (R.length + 1), x_goesOn, -1, 0, -1, nI fu, x_firstWaiting, x_waitingCount, x_printCount, x_code, x_facts, x_partner, x_loaded, x_globals, x_memories, x_frameAt, x_frameHeight, x_frameResult, x_frameDead, x_kinds, x_values, x_variables, x_activeSlot, x_activeGives, x_activeFrame, x_activeResume, x_waiting, x_prints) := by
  obtain ⟨sm, mp, hN, M, Q, ⟨k, wkk⟩, eS, b1, b2, b3, b4, hs, hpn, h66, hRd, htv, hE20, hh, hd, hnv, hp⟩ := op_f W hfu hR AO CR XA AR YA
  obtain ⟨ok, okn⟩ := wk_s wkk
  by_cases z0 : C s p = 0
  · exact op_0 W hfu hR AO CR XA AR YA z0 h
  by_cases z1 : C s p = 1
  · exact op_1 W hfu hR AO CR XA AR YA z1 h
  by_cases z2 : C s p = 2 ∨ C s p = 3
  · exact op_2 W hfu hR AO CR XA AR YA z2 h
  by_cases z4 : C s p = 4
  · exact op_4 W hfu hR AO CR XA AR YA z4 h
  by_cases z5 : C s p = 5
  · exact op_5 W hfu hR AO CR XA AR YA z5 h
  by_cases z6 : C s p = 6
  · exact op_6 W hfu hR AO CR XA AR YA z6 h
  by_cases z7 : C s p = 7
  · exact op_7 W hfu hR AO CR XA AR YA z7 h
  by_cases z8 : C s p = 8
  · exact op_8 W hfu hR AO CR XA AR YA z8 h
  by_cases z9 : C s p = 9
  · exact op_9 W hfu hR AO CR XA AR YA z9 h
  by_cases z10 : C s p = 10
  · exact op_10 W hfu hR AO CR XA AR YA z10 h
  by_cases z11 : C s p = 11
  · exact op_11 W hfu hR AO CR XA AR YA z11 h
  by_cases z12 : C s p = 12
  · exact op_12 W hfu hR AO CR XA AR YA z12 h
  by_cases z13 : C s p = 13
  · exact op_13 W hfu hR AO CR XA AR YA z13 h
  by_cases z14 : C s p = 14
  · exact op_14 W hfu hR AO CR XA AR YA z14 h
  by_cases z15 : C s p = 15
  · exact op_15 W hfu hR AO CR XA AR YA z15 h
  by_cases z16 : C s p = 16
  · exact op_16 W hfu hR AO CR XA AR YA z16 h
  by_cases z17 : C s p = 17
  · exact op_17 W hfu hR AO CR XA AR YA z17 h
  by_cases z18 : C s p = 18
  · exact op_18 W hfu hR AO CR XA AR YA z18 h
  by_cases z19 : C s p = 19
  · exact op_19 W hfu hR AO CR XA AR YA z19 h
  by_cases z20 : C s p = 20 ∨ C s p = 21
  · exact op_20 W hfu hR AO CR XA AR YA z20 h
  by_cases z22 : C s p ≤ 24
  · exact op_ld W hfu hR AO CR XA AR YA (by omega) z22 h
  by_cases z25 : C s p ≤ 27
  · exact op_st W hfu hR AO CR XA AR YA (by omega) z25 h
  by_cases z28 : C s p = 28 ∨ C s p = 46
  · exact op_28 W hfu hR AO CR XA AR YA z28 h
  by_cases z64 : 64 ≤ C s p
  · exact op_cnv W hfu hR AO CR XA AR YA z64 h
  exact op_num W hfu hR AO CR XA AR YA (by omega) (by omega) (by omega) (by omega) h
end
