section
variable {x_byteCount x_wrongPlace x_at x_frameCount x_kindCount x_valueCount x_activeCount x_goesOn x_outcome x_trapPlace x_fuelUsed x_firstWaiting x_waitingCount x_printCount : Int32} {x_resultValue : Int64} {x_code x_facts x_partner x_loaded x_memories x_frameAt x_frameHeight x_frameResult x_frameDead x_kinds x_activeSlot x_activeGives x_activeFrame x_activeResume x_waiting x_prints : Nat → Int32} {x_globals x_values x_variables : Nat → Int64}
variable {y_count y_place y_m y_pos y_wrong y_least y_top y_frames y_invalid y_sp y_labels y_active y_fuel y_outcome y_trappedAt y_used y_waits y_printed : Int32} {y_constant y_result : Int64} {y_bytes y_there y_types y_typeSig y_imports y_functions y_sig y_what y_typeAt y_localsAt y_globals y_globalKind y_globalFree y_entries y_entriesAt y_hasMemory y_memory y_nest y_kinds y_shape y_gives y_height y_dead y_labelAt y_labelHeight y_labelGives y_callModule y_callFunction y_callBack y_callBase y_callLabels y_waiting y_prints : Nat → Int32} {y_globalValue y_stack : Nat → Int64}
variable {B : Nat → Bool} {C : Nat → Nat → Nat} {N : Nat → Nat} {PP : Nat → Nat → Nat} {n : Nat} {cd : Nat → Nat} {g0 fu s f nv g p : Nat} {E : List ev} {L : Nat → Int64} {F : List vt_Fr} {R : List ac}
variable {post : SX → Prop}
theorem wo_g {x : Nat} {v : Int64} (W : wo_ok B C N PP n cd x_byteCount x_wrongPlace x_firstWaiting x_waitingCount x_printCount x_code x_facts x_partner x_loaded x_globals x_memories x_waiting x_prints y_count y_place y_waits y_printed y_bytes y_there y_types y_typeSig y_imports y_functions y_sig y_what y_localsAt y_globals y_globalValue y_entries y_entriesAt y_hasMemory y_memory y_waiting y_prints) (hs : s < 2) (hB : B s = true) (hx : x < 3) (hg : ∀ s, s < 2 → B s = true → C s (m_pG (C s) (N s)) ≤ 3) (hv : C s (m_ga (C s) (N s) x) = 1 → sx64 v) :
    wo_ok B C N PP n cd x_byteCount x_wrongPlace x_firstWaiting x_waitingCount x_printCount x_code x_facts x_partner x_loaded (vp_updL x_globals (s * 3 + x) v) x_memories x_waiting x_prints y_count y_place y_waits y_printed y_bytes y_there y_types y_typeSig y_imports y_functions y_sig y_what y_localsAt y_globals (vp_updL y_globalValue (3 * s + x) v) y_entries y_entriesAt y_hasMemory y_memory y_waiting y_prints := by
  obtain ⟨w1, w2, w3, w4, w5, w6, w7, w8, w9, w10, w11, w12⟩ := W
  refine ⟨w1, w2, w3, w4, w5, w6, w7, w8, w9, w10, w11, fun s' hs' hB' => ?_⟩
  obtain ⟨d1, d2⟩ := w12 s' hs' hB'
  refine ⟨fun g' hg' => ?_, d2⟩
  have h3 := hg s' hs' hB'
  by_cases z : s' = s ∧ g' = x
  · obtain ⟨z1, z2⟩ := z
    subst z1 z2
    rw [pk_uLs, pk_uLs]
    exact ⟨rfl, hv⟩
  · rw [pk_uLn (by omega), pk_uLn (by omega)]
    exact d1 g' hg'
theorem op_15 (W : wo_ok B C N PP n cd x_byteCount x_wrongPlace x_firstWaiting x_waitingCount x_printCount x_code x_facts x_partner x_loaded x_globals x_memories x_waiting x_prints y_count y_place y_waits y_printed y_bytes y_there y_types y_typeSig y_imports y_functions y_sig y_what y_localsAt y_globals y_globalValue y_entries y_entriesAt y_hasMemory y_memory y_waiting y_prints) (hfu : fu ≤ 120) (hR : R.length < 10) (AO : a_ok B C N PP 0 s f nv g p E L F) (CR : ch_ok B C N PP g0 g R) (XA : xa_ok x_frameAt x_frameHeight x_values x_variables x_activeSlot x_activeGives x_activeFrame ((s, f, nv, g, p, E, L, F) :: R)) (AR : ar_ok x_activeResume R) (YA : ya_ok y_stack y_labelAt y_labelHeight y_labelGives y_callModule y_callFunction y_callBack y_callBase y_callLabels ((s, f, nv, g, p, E, L, F) :: R)) (hop : C s p = 15) (h : ∀ u' v' q, nxt B C N PP n cd g0 (mu ((s, f, nv, g, p, E, L, F) :: R) fu) u' v' q → ystep (y_count, y_place, nI s, y_pos, y_wrong, y_constant, y_least, y_top, y_frames, y_invalid, nI (yb R + nv + E.length), nI (fb R + F.length), nI (R.length + 1), nI (120 - fu), 0, -1, y_result, y_used, y_waits, y_printed, y_bytes, y_there, y_types, y_typeSig, y_imports, y_functions, y_sig, y_what, y_typeAt, y_localsAt, y_globals, y_globalKind, y_globalFree, y_globalValue, y_entries, y_entriesAt, y_hasMemory, y_memory, y_nest, y_kinds, y_shape, y_gives, y_height, y_dead, y_stack, y_labelAt, y_labelHeight, y_labelGives, y_callModule, y_callFunction, y_callBack, y_callBase, y_callLabels, y_waiting, y_prints) v' (nI p) q → post u') : wpX_step post (x_byteCount, x_wrongPlace, nI p, nI (fb R + F.length), x_kindCount, nI (vb R + E.length), nI (R.length + 1), x_goesOn, -1, 0, -1, nI fu, x_firstWaiting, x_waitingCount, x_printCount, x_code, x_facts, x_partner, x_loaded, x_globals, x_memories, x_frameAt, x_frameHeight, x_frameResult, x_frameDead, x_kinds, x_values, x_variables, x_activeSlot, x_activeGives, x_activeFrame, x_activeResume, x_waiting, x_prints) := by
  obtain ⟨sm, mp, hN, M, Q, ⟨k, wkk⟩, eS, b1, b2, b3, b4, hs, hpn, h66, hRd, htv, hE20, hh, hd, hnv, hp⟩ := op_f W hfu hR AO CR XA AR YA
  obtain ⟨ok, okn⟩ := wk_s wkk
  have enx : nx (C s) p = p + 2 := nx_2 (by rw [hop]; decide)
  have hn2 := (wk_n wkk).2.2.1
  have hv : v_st (C s) (N s) f p (ek E, F, false) = vt_gv (vk (C s) (N s) f (C s (p + 1))) (vt_bad (ek E, F, false) (decide (vk (C s) (N s) f (C s (p + 1)) = 0))) := by unfold v_st; rw [hop]; rfl
  rw [hv] at ok
  have o1 := bf_bad (bf_gv ok)
  have hk0 : vk (C s) (N s) f (C s (p + 1)) ≠ 0 := of_decide_eq_false o1.2
  rw [o1.2, vb_f] at ok hv
  obtain ⟨hl, e4⟩ := ge ok
  rw [e4] at hv
  rw [ek_len] at hl
  have hxv : C s (p + 1) < nv := by rw [AO.2.2.2.2.1.1]; exact vk_lt hk0
  have AO' := a_nx (X := []) (X' := [(vk (C s) (N s) f (C s (p + 1)), L (C s (p + 1)))]) (E0 := E) AO hN hh hv ⟨hk0, AO.2.2.2.2.2.2.2.2.2.2.2.2.2.1 _ hxv, htv⟩ (by show E.length + 1 ≤ 20; omega) AO.2.2.2.2.2.2.2.2.2.2.2.2.2.1
  refine r_simple hs M hp hR rfl eS rfl (by omega) (by omega) ?_
  refine xs_15 hR rfl (by omega) (i := vb R + E.length) rfl (by omega) (by rw [hop]) ?_
  rw [XA.2.1 _ hxv]
  refine r_140 rfl ?_
  refine h _ (y_count, y_place, nI s, y_pos, y_wrong, y_constant, y_least, y_top, y_frames, y_invalid, nI (yb R + nv + E.length + 1), nI (fb R + F.length), nI (R.length + 1), nI (120 - fu), 0, -1, y_result, y_used, y_waits, y_printed, y_bytes, y_there, y_types, y_typeSig, y_imports, y_functions, y_sig, y_what, y_typeAt, y_localsAt, y_globals, y_globalKind, y_globalFree, y_globalValue, y_entries, y_entriesAt, y_hasMemory, y_memory, y_nest, y_kinds, y_shape, y_gives, y_height, y_dead, vp_updL y_stack (yb R + nv + E.length) (L (C s (p + 1))), y_labelAt, y_labelHeight, y_labelGives, y_callModule, y_callFunction, y_callBack, y_callBase, y_callLabels, y_waiting, y_prints) (nI (nx (C s) p)) (fin_c W hfu hR AO'.1 CR (xa_1 (X := []) XA b4) AR (ya_1 (X := []) YA) (mu_s AO'.2 (by omega))) (fun QQ hQ a w kk => ?_)
  show wpY_step QQ (y_count, y_place, nI s, a, w, kk, y_least, y_top, y_frames, y_invalid, nI (yb R + nv + E.length), nI (fb R + F.length), nI (R.length + 1), nI (120 - fu), 0, -1, y_result, y_used, y_waits, y_printed, y_bytes, y_there, y_types, y_typeSig, y_imports, y_functions, y_sig, y_what, y_typeAt, y_localsAt, y_globals, y_globalKind, y_globalFree, y_globalValue, y_entries, y_entriesAt, y_hasMemory, y_memory, y_nest, y_kinds, y_shape, y_gives, y_height, y_dead, y_stack, y_labelAt, y_labelHeight, y_labelGives, y_callModule, y_callFunction, y_callBack, y_callBase, y_callLabels, y_waiting, y_prints) (nI p)
  refine y_dat Q hpn h66 hRd (by omega) (fun k' x1 hx hk => ?_)
  refine yd_15 (C s (p + 1)) hR rfl YA.2.2.2.2.2.1 rfl (by omega) (by omega) (by rw [hop]) (hx (by omega)) ?_
  rw [YA.2.1 _ hxv]
  exact hQ _ _ _
theorem op_16 (W : wo_ok B C N PP n cd x_byteCount x_wrongPlace x_firstWaiting x_waitingCount x_printCount x_code x_facts x_partner x_loaded x_globals x_memories x_waiting x_prints y_count y_place y_waits y_printed y_bytes y_there y_types y_typeSig y_imports y_functions y_sig y_what y_localsAt y_globals y_globalValue y_entries y_entriesAt y_hasMemory y_memory y_waiting y_prints) (hfu : fu ≤ 120) (hR : R.length < 10) (AO : a_ok B C N PP 0 s f nv g p E L F) (CR : ch_ok B C N PP g0 g R) (XA : xa_ok x_frameAt x_frameHeight x_values x_variables x_activeSlot x_activeGives x_activeFrame ((s, f, nv, g, p, E, L, F) :: R)) (AR : ar_ok x_activeResume R) (YA : ya_ok y_stack y_labelAt y_labelHeight y_labelGives y_callModule y_callFunction y_callBack y_callBase y_callLabels ((s, f, nv, g, p, E, L, F) :: R)) (hop : C s p = 16) (h : ∀ u' v' q, nxt B C N PP n cd g0 (mu ((s, f, nv, g, p, E, L, F) :: R) fu) u' v' q → ystep (y_count, y_place, nI s, y_pos, y_wrong, y_constant, y_least, y_top, y_frames, y_invalid, nI (yb R + nv + E.length), nI (fb R + F.length), nI (R.length + 1), nI (120 - fu), 0, -1, y_result, y_used, y_waits, y_printed, y_bytes, y_there, y_types, y_typeSig, y_imports, y_functions, y_sig, y_what, y_typeAt, y_localsAt, y_globals, y_globalKind, y_globalFree, y_globalValue, y_entries, y_entriesAt, y_hasMemory, y_memory, y_nest, y_kinds, y_shape, y_gives, y_height, y_dead, y_stack, y_labelAt, y_labelHeight, y_labelGives, y_callModule, y_callFunction, y_callBack, y_callBase, y_callLabels, y_waiting, y_prints) v' (nI p) q → post u') : wpX_step post (x_byteCount, x_wrongPlace, nI p, nI (fb R + F.length), x_kindCount, nI (vb R + E.length), nI (R.length + 1), x_goesOn, -1, 0, -1, nI fu, x_firstWaiting, x_waitingCount, x_printCount, x_code, x_facts, x_partner, x_loaded, x_globals, x_memories, x_frameAt, x_frameHeight, x_frameResult, x_frameDead, x_kinds, x_values, x_variables, x_activeSlot, x_activeGives, x_activeFrame, x_activeResume, x_waiting, x_prints) := by
  obtain ⟨sm, mp, hN, M, Q, ⟨k, wkk⟩, eS, b1, b2, b3, b4, hs, hpn, h66, hRd, htv, hE20, hh, hd, hnv, hp⟩ := op_f W hfu hR AO CR XA AR YA
  obtain ⟨ok, okn⟩ := wk_s wkk
  have enx : nx (C s) p = p + 2 := nx_2 (by rw [hop]; decide)
  have hn2 := (wk_n wkk).2.2.1
  have hv : v_st (C s) (N s) f p (ek E, F, false) = vt_pl (vk (C s) (N s) f (C s (p + 1))) (vt_bad (ek E, F, false) (decide (vk (C s) (N s) f (C s (p + 1)) = 0))) := by unfold v_st; rw [hop]; rfl
  rw [hv] at ok
  have o1 := bf_bad (bf_pl ok)
  have hk0 : vk (C s) (N s) f (C s (p + 1)) ≠ 0 := of_decide_eq_false o1.2
  rw [o1.2, vb_f] at ok hv
  obtain ⟨x, v, E', rfl, hh', hxk, e1, hx0, hx1, htv', _⟩ := pe ok hd htv hh
  have hxk' := hxk hk0
  have hxv : C s (p + 1) < nv := by rw [AO.2.2.2.2.1.1]; exact vk_lt hk0
  simp only [List.length_cons] at hE20
  have AO' := a_nx (X := [(x, v)]) (X' := []) (E0 := E') AO hN hh' (hv.trans e1) htv' (by show E'.length ≤ 20; omega) (sx_upd (x := C s (p + 1)) (v := v) AO (fun z => hx1 (hxk'.trans z)))
  obtain ⟨q0, q1⟩ := XA.1
  obtain ⟨r0, r1⟩ := YA.1
  refine r_simple hs M hp hR rfl eS rfl (by omega) (by omega) ?_
  refine xs_16 hR rfl (by omega) (i := vb R + E'.length) rfl (by omega) (by rw [hop]) ?_
  rw [show x_values (vb R + E'.length) = v from q0]
  refine r_140 rfl ?_
  refine h _ (y_count, y_place, nI s, y_pos, y_wrong, y_constant, y_least, y_top, y_frames, y_invalid, nI (yb R + nv + E'.length), nI (fb R + F.length), nI (R.length + 1), nI (120 - fu), 0, -1, y_result, y_used, y_waits, y_printed, y_bytes, y_there, y_types, y_typeSig, y_imports, y_functions, y_sig, y_what, y_typeAt, y_localsAt, y_globals, y_globalKind, y_globalFree, y_globalValue, y_entries, y_entriesAt, y_hasMemory, y_memory, y_nest, y_kinds, y_shape, y_gives, y_height, y_dead, vp_updL y_stack (yb R + C s (p + 1)) v, y_labelAt, y_labelHeight, y_labelGives, y_callModule, y_callFunction, y_callBack, y_callBase, y_callLabels, y_waiting, y_prints) (nI (nx (C s) p)) (fin_c W hfu hR AO'.1 CR (xa_v (X := [(x, v)]) XA b4) AR (ya_v (X := [(x, v)]) YA hxv) (mu_s AO'.2 (by omega))) (fun QQ hQ a w kk => ?_)
  show wpY_step QQ (y_count, y_place, nI s, a, w, kk, y_least, y_top, y_frames, y_invalid, nI (yb R + nv + E'.length + 1), nI (fb R + F.length), nI (R.length + 1), nI (120 - fu), 0, -1, y_result, y_used, y_waits, y_printed, y_bytes, y_there, y_types, y_typeSig, y_imports, y_functions, y_sig, y_what, y_typeAt, y_localsAt, y_globals, y_globalKind, y_globalFree, y_globalValue, y_entries, y_entriesAt, y_hasMemory, y_memory, y_nest, y_kinds, y_shape, y_gives, y_height, y_dead, y_stack, y_labelAt, y_labelHeight, y_labelGives, y_callModule, y_callFunction, y_callBack, y_callBase, y_callLabels, y_waiting, y_prints) (nI p)
  refine y_dat Q hpn h66 hRd (by omega) (fun k' x1 hx hk => ?_)
  refine yd_16 (C s (p + 1)) hR rfl YA.2.2.2.2.2.1 rfl (by omega) (by omega) (by rw [hop]) (hx (by omega)) ?_
  rw [show y_stack (yb R + nv + E'.length) = v from r0]
  exact hQ _ _ _
theorem op_17 (W : wo_ok B C N PP n cd x_byteCount x_wrongPlace x_firstWaiting x_waitingCount x_printCount x_code x_facts x_partner x_loaded x_globals x_memories x_waiting x_prints y_count y_place y_waits y_printed y_bytes y_there y_types y_typeSig y_imports y_functions y_sig y_what y_localsAt y_globals y_globalValue y_entries y_entriesAt y_hasMemory y_memory y_waiting y_prints) (hfu : fu ≤ 120) (hR : R.length < 10) (AO : a_ok B C N PP 0 s f nv g p E L F) (CR : ch_ok B C N PP g0 g R) (XA : xa_ok x_frameAt x_frameHeight x_values x_variables x_activeSlot x_activeGives x_activeFrame ((s, f, nv, g, p, E, L, F) :: R)) (AR : ar_ok x_activeResume R) (YA : ya_ok y_stack y_labelAt y_labelHeight y_labelGives y_callModule y_callFunction y_callBack y_callBase y_callLabels ((s, f, nv, g, p, E, L, F) :: R)) (hop : C s p = 17) (h : ∀ u' v' q, nxt B C N PP n cd g0 (mu ((s, f, nv, g, p, E, L, F) :: R) fu) u' v' q → ystep (y_count, y_place, nI s, y_pos, y_wrong, y_constant, y_least, y_top, y_frames, y_invalid, nI (yb R + nv + E.length), nI (fb R + F.length), nI (R.length + 1), nI (120 - fu), 0, -1, y_result, y_used, y_waits, y_printed, y_bytes, y_there, y_types, y_typeSig, y_imports, y_functions, y_sig, y_what, y_typeAt, y_localsAt, y_globals, y_globalKind, y_globalFree, y_globalValue, y_entries, y_entriesAt, y_hasMemory, y_memory, y_nest, y_kinds, y_shape, y_gives, y_height, y_dead, y_stack, y_labelAt, y_labelHeight, y_labelGives, y_callModule, y_callFunction, y_callBack, y_callBase, y_callLabels, y_waiting, y_prints) v' (nI p) q → post u') : wpX_step post (x_byteCount, x_wrongPlace, nI p, nI (fb R + F.length), x_kindCount, nI (vb R + E.length), nI (R.length + 1), x_goesOn, -1, 0, -1, nI fu, x_firstWaiting, x_waitingCount, x_printCount, x_code, x_facts, x_partner, x_loaded, x_globals, x_memories, x_frameAt, x_frameHeight, x_frameResult, x_frameDead, x_kinds, x_values, x_variables, x_activeSlot, x_activeGives, x_activeFrame, x_activeResume, x_waiting, x_prints) := by
  obtain ⟨sm, mp, hN, M, Q, ⟨k, wkk⟩, eS, b1, b2, b3, b4, hs, hpn, h66, hRd, htv, hE20, hh, hd, hnv, hp⟩ := op_f W hfu hR AO CR XA AR YA
  obtain ⟨ok, okn⟩ := wk_s wkk
  have enx : nx (C s) p = p + 2 := nx_2 (by rw [hop]; decide)
  have hn2 := (wk_n wkk).2.2.1
  have hv : v_st (C s) (N s) f p (ek E, F, false) = vt_gv (vk (C s) (N s) f (C s (p + 1))) (vt_pl (vk (C s) (N s) f (C s (p + 1))) (vt_bad (ek E, F, false) (decide (vk (C s) (N s) f (C s (p + 1)) = 0)))) := by unfold v_st; rw [hop]; rfl
  rw [hv] at ok
  have ok2 := bf_gv ok
  have o1 := bf_bad (bf_pl ok2)
  have hk0 : vk (C s) (N s) f (C s (p + 1)) ≠ 0 := of_decide_eq_false o1.2
  rw [o1.2, vb_f] at ok hv ok2
  obtain ⟨x, v, E', rfl, hh', hxk, e1, hx0, hx1, htv', _⟩ := pe ok2 hd htv hh
  have hxk' := hxk hk0
  rw [e1] at ok hv
  obtain ⟨hl, e4⟩ := ge ok
  rw [e4] at hv
  have hxv : C s (p + 1) < nv := by rw [AO.2.2.2.2.1.1]; exact vk_lt hk0
  simp only [List.length_cons] at hE20
  have AO' := a_nx (X := [(x, v)]) (X' := [(vk (C s) (N s) f (C s (p + 1)), v)]) (E0 := E') AO hN hh' hv ⟨hk0, fun z => hx1 (hxk'.trans z), htv'⟩ (by show E'.length + 1 ≤ 20; omega) (sx_upd (x := C s (p + 1)) (v := v) AO (fun z => hx1 (hxk'.trans z)))
  obtain ⟨q0, q1⟩ := XA.1
  obtain ⟨r0, r1⟩ := YA.1
  refine r_simple hs M hp hR rfl eS rfl (by omega) (by omega) ?_
  refine xs_17 hR rfl (by omega) (i := vb R + E'.length) rfl (by omega) (by rw [hop]) ?_
  rw [show x_values (vb R + E'.length) = v from q0]
  refine r_140 rfl ?_
  refine h _ (y_count, y_place, nI s, y_pos, y_wrong, y_constant, y_least, y_top, y_frames, y_invalid, nI (yb R + nv + E'.length + 1), nI (fb R + F.length), nI (R.length + 1), nI (120 - fu), 0, -1, y_result, y_used, y_waits, y_printed, y_bytes, y_there, y_types, y_typeSig, y_imports, y_functions, y_sig, y_what, y_typeAt, y_localsAt, y_globals, y_globalKind, y_globalFree, y_globalValue, y_entries, y_entriesAt, y_hasMemory, y_memory, y_nest, y_kinds, y_shape, y_gives, y_height, y_dead, vp_updL y_stack (yb R + C s (p + 1)) v, y_labelAt, y_labelHeight, y_labelGives, y_callModule, y_callFunction, y_callBack, y_callBase, y_callLabels, y_waiting, y_prints) (nI (nx (C s) p)) (fin_c W hfu hR AO'.1 CR (xa_v (p := p) (X := []) (xa_1 (X := [(x, v)]) XA b4) b4) AR (ya_v (p := p) (X := []) (ya_2 (X := [(x, v)]) YA r0) hxv) (mu_s AO'.2 (by omega))) (fun QQ hQ a w kk => ?_)
  show wpY_step QQ (y_count, y_place, nI s, a, w, kk, y_least, y_top, y_frames, y_invalid, nI (yb R + nv + E'.length + 1), nI (fb R + F.length), nI (R.length + 1), nI (120 - fu), 0, -1, y_result, y_used, y_waits, y_printed, y_bytes, y_there, y_types, y_typeSig, y_imports, y_functions, y_sig, y_what, y_typeAt, y_localsAt, y_globals, y_globalKind, y_globalFree, y_globalValue, y_entries, y_entriesAt, y_hasMemory, y_memory, y_nest, y_kinds, y_shape, y_gives, y_height, y_dead, y_stack, y_labelAt, y_labelHeight, y_labelGives, y_callModule, y_callFunction, y_callBack, y_callBase, y_callLabels, y_waiting, y_prints) (nI p)
  refine y_dat Q hpn h66 hRd (by omega) (fun k' x1 hx hk => ?_)
  refine yd_17 (C s (p + 1)) hR rfl YA.2.2.2.2.2.1 rfl (by omega) (by omega) (by rw [hop]) (hx (by omega)) ?_
  rw [show y_stack (yb R + nv + E'.length) = v from r0]
  exact hQ _ _ _
theorem op_18 (W : wo_ok B C N PP n cd x_byteCount x_wrongPlace x_firstWaiting x_waitingCount x_printCount x_code x_facts x_partner x_loaded x_globals x_memories x_waiting x_prints y_count y_place y_waits y_printed y_bytes y_there y_types y_typeSig y_imports y_functions y_sig y_what y_localsAt y_globals y_globalValue y_entries y_entriesAt y_hasMemory y_memory y_waiting y_prints) (hfu : fu ≤ 120) (hR : R.length < 10) (AO : a_ok B C N PP 0 s f nv g p E L F) (CR : ch_ok B C N PP g0 g R) (XA : xa_ok x_frameAt x_frameHeight x_values x_variables x_activeSlot x_activeGives x_activeFrame ((s, f, nv, g, p, E, L, F) :: R)) (AR : ar_ok x_activeResume R) (YA : ya_ok y_stack y_labelAt y_labelHeight y_labelGives y_callModule y_callFunction y_callBack y_callBase y_callLabels ((s, f, nv, g, p, E, L, F) :: R)) (hop : C s p = 18) (h : ∀ u' v' q, nxt B C N PP n cd g0 (mu ((s, f, nv, g, p, E, L, F) :: R) fu) u' v' q → ystep (y_count, y_place, nI s, y_pos, y_wrong, y_constant, y_least, y_top, y_frames, y_invalid, nI (yb R + nv + E.length), nI (fb R + F.length), nI (R.length + 1), nI (120 - fu), 0, -1, y_result, y_used, y_waits, y_printed, y_bytes, y_there, y_types, y_typeSig, y_imports, y_functions, y_sig, y_what, y_typeAt, y_localsAt, y_globals, y_globalKind, y_globalFree, y_globalValue, y_entries, y_entriesAt, y_hasMemory, y_memory, y_nest, y_kinds, y_shape, y_gives, y_height, y_dead, y_stack, y_labelAt, y_labelHeight, y_labelGives, y_callModule, y_callFunction, y_callBack, y_callBase, y_callLabels, y_waiting, y_prints) v' (nI p) q → post u') : wpX_step post (x_byteCount, x_wrongPlace, nI p, nI (fb R + F.length), x_kindCount, nI (vb R + E.length), nI (R.length + 1), x_goesOn, -1, 0, -1, nI fu, x_firstWaiting, x_waitingCount, x_printCount, x_code, x_facts, x_partner, x_loaded, x_globals, x_memories, x_frameAt, x_frameHeight, x_frameResult, x_frameDead, x_kinds, x_values, x_variables, x_activeSlot, x_activeGives, x_activeFrame, x_activeResume, x_waiting, x_prints) := by
  obtain ⟨sm, mp, hN, M, Q, ⟨k, wkk⟩, eS, b1, b2, b3, b4, hs, hpn, h66, hRd, htv, hE20, hh, hd, hnv, hp⟩ := op_f W hfu hR AO CR XA AR YA
  obtain ⟨ok, okn⟩ := wk_s wkk
  have enx : nx (C s) p = p + 2 := nx_2 (by rw [hop]; decide)
  have hn2 := (wk_n wkk).2.2.1
  have hv0 : v_st (C s) (N s) f p (ek E, F, false) = if C s (p + 1) < C s (m_pG (C s) (N s)) then vt_gv (C s (m_ga (C s) (N s) (C s (p + 1)))) (ek E, F, false) else vt_gv 0 (vt_bad (ek E, F, false) true) := by unfold v_st; rw [hop]; rfl
  have hlt : C s (p + 1) < C s (m_pG (C s) (N s)) := by
    by_cases z : C s (p + 1) < C s (m_pG (C s) (N s))
    · exact z
    · rw [hv0, if_neg z] at ok
      exact ff_t ((vb_t _).symm.trans (bf_gv ok)).symm
  have hv := hv0
  rw [if_pos hlt] at hv
  rw [hv] at ok
  obtain ⟨hl, e4⟩ := ge ok
  rw [e4] at hv
  rw [ek_len] at hl
  obtain ⟨m1, m2, m3, m4, m5, m6, m7, m8, m9⟩ := mp
  have hk := m8 _ hlt
  have hgl := ((W.2.2.2.2.2.2.2.2.2.2.2) s hs AO.2.1).1 _ hlt
  have AO' := a_nx (X := []) (X' := [(C s (m_ga (C s) (N s) (C s (p + 1))), x_globals (s * 3 + C s (p + 1)))]) (E0 := E) AO hN hh hv ⟨by omega, hgl.2, htv⟩ (by show E.length + 1 ≤ 20; omega) AO.2.2.2.2.2.2.2.2.2.2.2.2.2.1
  refine r_simple hs M hp hR rfl eS rfl (by omega) (by omega) ?_
  refine xs_18 hs hR rfl (by omega) (i := vb R + E.length) rfl (by omega) (by rw [hop]) ?_
  refine r_140 rfl ?_
  refine h _ (y_count, y_place, nI s, y_pos, y_wrong, y_constant, y_least, y_top, y_frames, y_invalid, nI (yb R + nv + E.length + 1), nI (fb R + F.length), nI (R.length + 1), nI (120 - fu), 0, -1, y_result, y_used, y_waits, y_printed, y_bytes, y_there, y_types, y_typeSig, y_imports, y_functions, y_sig, y_what, y_typeAt, y_localsAt, y_globals, y_globalKind, y_globalFree, y_globalValue, y_entries, y_entriesAt, y_hasMemory, y_memory, y_nest, y_kinds, y_shape, y_gives, y_height, y_dead, vp_updL y_stack (yb R + nv + E.length) (x_globals (s * 3 + C s (p + 1))), y_labelAt, y_labelHeight, y_labelGives, y_callModule, y_callFunction, y_callBack, y_callBase, y_callLabels, y_waiting, y_prints) (nI (nx (C s) p)) (fin_c W hfu hR AO'.1 CR (xa_1 (X := []) XA b4) AR (ya_1 (X := []) YA) (mu_s AO'.2 (by omega))) (fun QQ hQ a w kk => ?_)
  show wpY_step QQ (y_count, y_place, nI s, a, w, kk, y_least, y_top, y_frames, y_invalid, nI (yb R + nv + E.length), nI (fb R + F.length), nI (R.length + 1), nI (120 - fu), 0, -1, y_result, y_used, y_waits, y_printed, y_bytes, y_there, y_types, y_typeSig, y_imports, y_functions, y_sig, y_what, y_typeAt, y_localsAt, y_globals, y_globalKind, y_globalFree, y_globalValue, y_entries, y_entriesAt, y_hasMemory, y_memory, y_nest, y_kinds, y_shape, y_gives, y_height, y_dead, y_stack, y_labelAt, y_labelHeight, y_labelGives, y_callModule, y_callFunction, y_callBack, y_callBase, y_callLabels, y_waiting, y_prints) (nI p)
  refine y_dat Q hpn h66 hRd (by omega) (fun k' x1 hx hk => ?_)
  refine yd_18 s (C s (p + 1)) hs rfl hR rfl YA.2.2.2.2.2.1 rfl (by omega) (by omega) (by rw [hop]) (hx (by omega)) ?_
  rw [← hgl.1]
  exact hQ _ _ _
theorem op_19 (W : wo_ok B C N PP n cd x_byteCount x_wrongPlace x_firstWaiting x_waitingCount x_printCount x_code x_facts x_partner x_loaded x_globals x_memories x_waiting x_prints y_count y_place y_waits y_printed y_bytes y_there y_types y_typeSig y_imports y_functions y_sig y_what y_localsAt y_globals y_globalValue y_entries y_entriesAt y_hasMemory y_memory y_waiting y_prints) (hfu : fu ≤ 120) (hR : R.length < 10) (AO : a_ok B C N PP 0 s f nv g p E L F) (CR : ch_ok B C N PP g0 g R) (XA : xa_ok x_frameAt x_frameHeight x_values x_variables x_activeSlot x_activeGives x_activeFrame ((s, f, nv, g, p, E, L, F) :: R)) (AR : ar_ok x_activeResume R) (YA : ya_ok y_stack y_labelAt y_labelHeight y_labelGives y_callModule y_callFunction y_callBack y_callBase y_callLabels ((s, f, nv, g, p, E, L, F) :: R)) (hop : C s p = 19) (h : ∀ u' v' q, nxt B C N PP n cd g0 (mu ((s, f, nv, g, p, E, L, F) :: R) fu) u' v' q → ystep (y_count, y_place, nI s, y_pos, y_wrong, y_constant, y_least, y_top, y_frames, y_invalid, nI (yb R + nv + E.length), nI (fb R + F.length), nI (R.length + 1), nI (120 - fu), 0, -1, y_result, y_used, y_waits, y_printed, y_bytes, y_there, y_types, y_typeSig, y_imports, y_functions, y_sig, y_what, y_typeAt, y_localsAt, y_globals, y_globalKind, y_globalFree, y_globalValue, y_entries, y_entriesAt, y_hasMemory, y_memory, y_nest, y_kinds, y_shape, y_gives, y_height, y_dead, y_stack, y_labelAt, y_labelHeight, y_labelGives, y_callModule, y_callFunction, y_callBack, y_callBase, y_callLabels, y_waiting, y_prints) v' (nI p) q → post u') : wpX_step post (x_byteCount, x_wrongPlace, nI p, nI (fb R + F.length), x_kindCount, nI (vb R + E.length), nI (R.length + 1), x_goesOn, -1, 0, -1, nI fu, x_firstWaiting, x_waitingCount, x_printCount, x_code, x_facts, x_partner, x_loaded, x_globals, x_memories, x_frameAt, x_frameHeight, x_frameResult, x_frameDead, x_kinds, x_values, x_variables, x_activeSlot, x_activeGives, x_activeFrame, x_activeResume, x_waiting, x_prints) := by
  obtain ⟨sm, mp, hN, M, Q, ⟨k, wkk⟩, eS, b1, b2, b3, b4, hs, hpn, h66, hRd, htv, hE20, hh, hd, hnv, hp⟩ := op_f W hfu hR AO CR XA AR YA
  obtain ⟨ok, okn⟩ := wk_s wkk
  have enx : nx (C s) p = p + 2 := nx_2 (by rw [hop]; decide)
  have hn2 := (wk_n wkk).2.2.1
  have hv0 : v_st (C s) (N s) f p (ek E, F, false) = if C s (p + 1) < C s (m_pG (C s) (N s)) then vt_pl (C s (m_ga (C s) (N s) (C s (p + 1)))) (vt_bad (ek E, F, false) (decide (C s (m_ga (C s) (N s) (C s (p + 1)) + 1) = 0))) else vt_pl 0 (vt_bad (ek E, F, false) true) := by unfold v_st; rw [hop]; rfl
  have hlt : C s (p + 1) < C s (m_pG (C s) (N s)) := by
    by_cases z : C s (p + 1) < C s (m_pG (C s) (N s))
    · exact z
    · rw [hv0, if_neg z] at ok
      exact ff_t ((vb_t _).symm.trans (bf_pl ok)).symm
  have hv := hv0
  rw [if_pos hlt] at hv
  rw [hv] at ok
  have o1 := bf_bad (bf_pl ok)
  rw [o1.2, vb_f] at ok hv
  obtain ⟨m1, m2, m3, m4, m5, m6, m7, m8, m9⟩ := mp
  have hk := m8 _ hlt
  obtain ⟨x, v, E', rfl, hh', hxk, e1, hx0, hx1, htv', _⟩ := pe ok hd htv hh
  have hxk' := hxk (by omega)
  simp only [List.length_cons] at hE20
  have AO' := a_nx (X := [(x, v)]) (X' := []) (E0 := E') AO hN hh' (hv.trans e1) htv' (by show E'.length ≤ 20; omega) AO.2.2.2.2.2.2.2.2.2.2.2.2.2.1
  have hg3 : ∀ s, s < 2 → B s = true → C s (m_pG (C s) (N s)) ≤ 3 := fun s' h1 h2 => (mp_of (W.2.2.2.2.2.2.2.2.2.2.1 s' h1 h2).1.2.1).1.2.2.2.2.2.2.1
  obtain ⟨q0, q1⟩ := XA.1
  obtain ⟨r0, r1⟩ := YA.1
  refine r_simple hs M hp hR rfl eS rfl (by omega) (by omega) ?_
  refine xs_19 hs hR rfl (by omega) (i := vb R + E'.length) rfl (by omega) (by rw [hop]) ?_
  rw [show x_values (vb R + E'.length) = v from q0]
  refine r_140 rfl ?_
  refine h _ (y_count, y_place, nI s, y_pos, y_wrong, y_constant, y_least, y_top, y_frames, y_invalid, nI (yb R + nv + E'.length), nI (fb R + F.length), nI (R.length + 1), nI (120 - fu), 0, -1, y_result, y_used, y_waits, y_printed, y_bytes, y_there, y_types, y_typeSig, y_imports, y_functions, y_sig, y_what, y_typeAt, y_localsAt, y_globals, y_globalKind, y_globalFree, vp_updL y_globalValue (3 * s + C s (p + 1)) v, y_entries, y_entriesAt, y_hasMemory, y_memory, y_nest, y_kinds, y_shape, y_gives, y_height, y_dead, y_stack, y_labelAt, y_labelHeight, y_labelGives, y_callModule, y_callFunction, y_callBack, y_callBase, y_callLabels, y_waiting, y_prints) (nI (nx (C s) p)) (fin_c (wo_g W hs AO.2.1 (by omega) hg3 (fun z => hx1 (hxk'.trans z))) hfu hR AO'.1 CR (xa_0 (X := [(x, v)]) XA) AR (ya_0 (X := [(x, v)]) YA) (mu_s AO'.2 (by omega))) (fun QQ hQ a w kk => ?_)
  show wpY_step QQ (y_count, y_place, nI s, a, w, kk, y_least, y_top, y_frames, y_invalid, nI (yb R + nv + E'.length + 1), nI (fb R + F.length), nI (R.length + 1), nI (120 - fu), 0, -1, y_result, y_used, y_waits, y_printed, y_bytes, y_there, y_types, y_typeSig, y_imports, y_functions, y_sig, y_what, y_typeAt, y_localsAt, y_globals, y_globalKind, y_globalFree, y_globalValue, y_entries, y_entriesAt, y_hasMemory, y_memory, y_nest, y_kinds, y_shape, y_gives, y_height, y_dead, y_stack, y_labelAt, y_labelHeight, y_labelGives, y_callModule, y_callFunction, y_callBack, y_callBase, y_callLabels, y_waiting, y_prints) (nI p)
  refine y_dat Q hpn h66 hRd (by omega) (fun k' x1 hx hk => ?_)
  refine yd_19 s (C s (p + 1)) hs rfl hR rfl YA.2.2.2.2.2.1 rfl (by omega) (by omega) (by rw [hop]) (hx (by omega)) ?_
  rw [show y_stack (yb R + nv + E'.length) = v from r0]
  exact hQ _ _ _
theorem op_20 (W : wo_ok B C N PP n cd x_byteCount x_wrongPlace x_firstWaiting x_waitingCount x_printCount x_code x_facts x_partner x_loaded x_globals x_memories x_waiting x_prints y_count y_place y_waits y_printed y_bytes y_there y_types y_typeSig y_imports y_functions y_sig y_what y_localsAt y_globals y_globalValue y_entries y_entriesAt y_hasMemory y_memory y_waiting y_prints) (hfu : fu ≤ 120) (hR : R.length < 10) (AO : a_ok B C N PP 0 s f nv g p E L F) (CR : ch_ok B C N PP g0 g R) (XA : xa_ok x_frameAt x_frameHeight x_values x_variables x_activeSlot x_activeGives x_activeFrame ((s, f, nv, g, p, E, L, F) :: R)) (AR : ar_ok x_activeResume R) (YA : ya_ok y_stack y_labelAt y_labelHeight y_labelGives y_callModule y_callFunction y_callBack y_callBase y_callLabels ((s, f, nv, g, p, E, L, F) :: R)) (hop : C s p = 20 ∨ C s p = 21) (h : ∀ u' v' q, nxt B C N PP n cd g0 (mu ((s, f, nv, g, p, E, L, F) :: R) fu) u' v' q → ystep (y_count, y_place, nI s, y_pos, y_wrong, y_constant, y_least, y_top, y_frames, y_invalid, nI (yb R + nv + E.length), nI (fb R + F.length), nI (R.length + 1), nI (120 - fu), 0, -1, y_result, y_used, y_waits, y_printed, y_bytes, y_there, y_types, y_typeSig, y_imports, y_functions, y_sig, y_what, y_typeAt, y_localsAt, y_globals, y_globalKind, y_globalFree, y_globalValue, y_entries, y_entriesAt, y_hasMemory, y_memory, y_nest, y_kinds, y_shape, y_gives, y_height, y_dead, y_stack, y_labelAt, y_labelHeight, y_labelGives, y_callModule, y_callFunction, y_callBack, y_callBase, y_callLabels, y_waiting, y_prints) v' (nI p) q → post u') : wpX_step post (x_byteCount, x_wrongPlace, nI p, nI (fb R + F.length), x_kindCount, nI (vb R + E.length), nI (R.length + 1), x_goesOn, -1, 0, -1, nI fu, x_firstWaiting, x_waitingCount, x_printCount, x_code, x_facts, x_partner, x_loaded, x_globals, x_memories, x_frameAt, x_frameHeight, x_frameResult, x_frameDead, x_kinds, x_values, x_variables, x_activeSlot, x_activeGives, x_activeFrame, x_activeResume, x_waiting, x_prints) := by
  obtain ⟨sm, mp, hN, M, Q, ⟨k, wkk⟩, eS, b1, b2, b3, b4, hs, hpn, h66, hRd, htv, hE20, hh, hd, hnv, hp⟩ := op_f W hfu hR AO CR XA AR YA
  obtain ⟨ok, okn⟩ := wk_s wkk
  obtain ⟨kd, hkd, hop2⟩ : ∃ kd, (kd = 1 ∨ kd = 2) ∧ C s p = kd + 19 := ⟨C s p - 19, by omega, by omega⟩
  have hv : v_st (C s) (N s) f p (ek E, F, false) = vt_gv kd (ek E, F, false) := by
    rcases hkd with rfl | rfl
    · unfold v_st; rw [hop2]; rfl
    · unfold v_st; rw [hop2]; rfl
  rw [hv] at ok
  obtain ⟨hl, e4⟩ := ge ok
  rw [e4] at hv
  rw [ek_len] at hl
  have hex : ∃ j, j < 10 ∧ C s (p + 1 + j) ≤ 127 := by
    rcases hkd with rfl | rfl
    · rw [hop2, rd_R, if_neg (by omega), if_neg (by omega), if_pos rfl] at hRd
      obtain ⟨j, h1, h2⟩ := rd_C_ex _ _ (show (rd_C (C s) (N s) 5 (true, p + 1)).1 = true by rw [hRd])
      exact ⟨j, by omega, h2⟩
    · rw [hop2, rd_R, if_neg (by omega), if_neg (by omega), if_neg (by omega), if_pos rfl] at hRd
      exact rd_C_ex _ _ (show (rd_C (C s) (N s) 10 (true, p + 1)).1 = true by rw [hRd])
  have AO' := a_nx (X := []) (X' := [(kd, cv (C s) kd 10 (p + 1) 0 0)]) (E0 := E) AO hN hh hv ⟨by omega, fun z => by rw [z]; exact cv_sx _ _ _ _ hex, htv⟩ (by show E.length + 1 ≤ 20; omega) AO.2.2.2.2.2.2.2.2.2.2.2.2.2.1
  refine r_simple hs M hp hR rfl eS rfl (by omega) (by omega) ?_
  refine xs_20 kd hkd hs M hp rfl hex hR rfl (M.2.1 _) (i := vb R + E.length) rfl (by omega) (by rw [hop2]) ?_
  refine r_140 rfl ?_
  refine h _ (y_count, y_place, nI s, y_pos, y_wrong, y_constant, y_least, y_top, y_frames, y_invalid, nI (yb R + nv + E.length + 1), nI (fb R + F.length), nI (R.length + 1), nI (120 - fu), 0, -1, y_result, y_used, y_waits, y_printed, y_bytes, y_there, y_types, y_typeSig, y_imports, y_functions, y_sig, y_what, y_typeAt, y_localsAt, y_globals, y_globalKind, y_globalFree, y_globalValue, y_entries, y_entriesAt, y_hasMemory, y_memory, y_nest, y_kinds, y_shape, y_gives, y_height, y_dead, vp_updL y_stack (yb R + nv + E.length) (cv (C s) kd 10 (p + 1) 0 0), y_labelAt, y_labelHeight, y_labelGives, y_callModule, y_callFunction, y_callBack, y_callBase, y_callLabels, y_waiting, y_prints) (nI (nx (C s) p)) (fin_c W hfu hR AO'.1 CR (xa_1 (X := []) XA b4) AR (ya_1 (X := []) YA) (mu_s AO'.2 (by omega))) (fun QQ hQ a w kk => ?_)
  show wpY_step QQ (y_count, y_place, nI s, a, w, kk, y_least, y_top, y_frames, y_invalid, nI (yb R + nv + E.length), nI (fb R + F.length), nI (R.length + 1), nI (120 - fu), 0, -1, y_result, y_used, y_waits, y_printed, y_bytes, y_there, y_types, y_typeSig, y_imports, y_functions, y_sig, y_what, y_typeAt, y_localsAt, y_globals, y_globalKind, y_globalFree, y_globalValue, y_entries, y_entriesAt, y_hasMemory, y_memory, y_nest, y_kinds, y_shape, y_gives, y_height, y_dead, y_stack, y_labelAt, y_labelHeight, y_labelGives, y_callModule, y_callFunction, y_callBack, y_callBase, y_callLabels, y_waiting, y_prints) (nI p)
  refine y_dat Q hpn h66 hRd (by omega) (fun k' x1 hx hk => ?_)
  have hk' := hk hop
  rw [show C s p - 19 = kd by omega] at hk'
  subst hk'
  exact yd_20 hR rfl YA.2.2.2.2.2.1 rfl (by omega) (by rcases hop with z | z <;> rw [z] <;> simp) (hQ _ _ _)
end
