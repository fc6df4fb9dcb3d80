section
variable {x_byteCount x_wrongPlace x_at x_frameCount x_kindCount x_valueCount x_activeCount x_goesOn x_outcome x_trapPlace x_fuelUsed x_firstWaiting x_waitingCount x_printCount : Int32} {x_resultValue : Int64} {x_code x_facts x_partner x_loaded x_memories x_frameAt x_frameHeight x_frameResult x_frameDead x_kinds x_activeSlot x_activeGives x_activeFrame x_activeResume x_waiting x_prints : Nat → Int32} {x_globals x_values x_variables : Nat → Int64}
variable {y_count y_place y_m y_pos y_wrong y_least y_top y_frames y_invalid y_sp y_labels y_active y_fuel y_outcome y_trappedAt y_used y_waits y_printed : Int32} {y_constant y_result : Int64} {y_bytes y_there y_types y_typeSig y_imports y_functions y_sig y_what y_typeAt y_localsAt y_globals y_globalKind y_globalFree y_entries y_entriesAt y_hasMemory y_memory y_nest y_kinds y_shape y_gives y_height y_dead y_labelAt y_labelHeight y_labelGives y_callModule y_callFunction y_callBack y_callBase y_callLabels y_waiting y_prints : Nat → Int32} {y_globalValue y_stack : Nat → Int64}
variable {B : Nat → Bool} {C : Nat → Nat → Nat} {N : Nat → Nat} {PP : Nat → Nat → Nat} {n : Nat} {cd : Nat → Nat} {g0 fu s f nv g p : Nat} {E : List ev} {L : Nat → Int64} {F : List vt_Fr} {R : List ac}
variable {post : SX → Prop}
theorem op_5 (W : wo_ok B C N PP n cd x_byteCount x_wrongPlace x_firstWaiting x_waitingCount x_printCount x_code x_facts x_partner x_loaded x_globals x_memories x_waiting x_prints y_count y_place y_waits y_printed y_bytes y_there y_types y_typeSig y_imports y_functions y_sig y_what y_localsAt y_globals y_globalValue y_entries y_entriesAt y_hasMemory y_memory y_waiting y_prints) (hfu : fu ≤ 120) (hR : R.length < 10) (AO : a_ok B C N PP 0 s f nv g p E L F) (CR : ch_ok B C N PP g0 g R) (XA : xa_ok x_frameAt x_frameHeight x_values x_variables x_activeSlot x_activeGives x_activeFrame ((s, f, nv, g, p, E, L, F) :: R)) (AR : ar_ok x_activeResume R) (YA : ya_ok y_stack y_labelAt y_labelHeight y_labelGives y_callModule y_callFunction y_callBack y_callBase y_callLabels ((s, f, nv, g, p, E, L, F) :: R)) (hop : C s p = 5) (h : ∀ u' v' q, nxt B C N PP n cd g0 (mu ((s, f, nv, g, p, E, L, F) :: R) fu) u' v' q → ystep (y_count, y_place, nI s, y_pos, y_wrong, y_constant, y_least, y_top, y_frames, y_invalid, nI (yb R + nv + E.length), nI (fb R + F.length), nI (R.length + 1), nI (120 - fu), 0, -1, y_result, y_used, y_waits, y_printed, y_bytes, y_there, y_types, y_typeSig, y_imports, y_functions, y_sig, y_what, y_typeAt, y_localsAt, y_globals, y_globalKind, y_globalFree, y_globalValue, y_entries, y_entriesAt, y_hasMemory, y_memory, y_nest, y_kinds, y_shape, y_gives, y_height, y_dead, y_stack, y_labelAt, y_labelHeight, y_labelGives, y_callModule, y_callFunction, y_callBack, y_callBase, y_callLabels, y_waiting, y_prints) v' (nI p) q → post u') : wpX_step post (x_byteCount, x_wrongPlace, nI p, nI (fb R + F.length), x_kindCount, nI (vb R + E.length), nI (R.length + 1), x_goesOn, -1, 0, -1, nI fu, x_firstWaiting, x_waitingCount, x_printCount, x_code, x_facts, x_partner, x_loaded, x_globals, x_memories, x_frameAt, x_frameHeight, x_frameResult, x_frameDead, x_kinds, x_values, x_variables, x_activeSlot, x_activeGives, x_activeFrame, x_activeResume, x_waiting, x_prints) := by
  obtain ⟨sm, mp, hN, M, Q, ⟨k, wkk⟩, eS, b1, b2, b3, b4, hs, hpn, h66, hRd, htv, hE20, hh, hd, hnv, hp⟩ := op_f W hfu hR AO CR XA AR YA
  obtain ⟨ok, okn⟩ := wk_s wkk
  obtain ⟨e, j, e1, e2, e3, e4, e5, e6, AO'⟩ := a_else AO hN hop
  have enx : nx (C s) p = p + 1 := nx_1 (by omega)
  have hPt := (W.2.2.2.2.2.2.2.2.2.2.1 s hs AO.2.1).2.1.2.2
  have hF8 := AO.2.2.2.2.2.2.2.2.2.1
  cases F with
  | nil => exact absurd rfl e6
  | cons x F =>
    rw [List.length_cons] at hF8
    refine r_ctl hs M hp hR rfl eS rfl (by omega) (pk_lt (C s p) 0 (fun y => absurd y (by omega)) (fun _ => pk_lt 10 (C s p) (fun y => absurd y (by omega)) (fun _ => pk_eq (C s p) 0 (fun y => absurd y (by omega)) (fun _ => pk_eq (C s p) 1 (fun y => absurd y (by omega)) (fun _ => pk_eq (C s p) 2 (fun y => absurd y (by omega)) (fun _ => pk_eq (C s p) 3 (fun y => absurd y (by omega)) (fun _ => pk_eq (C s p) 4 (fun y => absurd y (by omega)) (fun _ => pk_eq (C s p) 5 (fun _ =>  ?_) (fun y => absurd y (by omega))))))))))
    refine xx_part (P := PP s) (hPt p hp) (by omega) hp ?_
    rw [e1]
    refine r_140 rfl ?_
    refine h _ (y_count, y_place, nI s, y_pos, y_wrong, y_constant, y_least, y_top, y_frames, y_invalid, nI (yb R + nv + E.length), nI (fb R + F.length), nI (R.length + 1), nI (120 - fu), 0, -1, y_result, y_used, y_waits, y_printed, y_bytes, y_there, y_types, y_typeSig, y_imports, y_functions, y_sig, y_what, y_typeAt, y_localsAt, y_globals, y_globalKind, y_globalFree, y_globalValue, y_entries, y_entriesAt, y_hasMemory, y_memory, y_nest, y_kinds, y_shape, y_gives, y_height, y_dead, y_stack, y_labelAt, y_labelHeight, y_labelGives, y_callModule, y_callFunction, y_callBack, y_callBase, y_callLabels, y_waiting, y_prints) (nI (e + 1)) (fin_re (e := e) W hfu hR AO' CR (xa_F (X := []) (j := 0) (d := 1) XA) AR (ya_F (X := []) (j := 0) (d := 1) YA) rfl e5 (mu_s e4 (by omega))) (fun QQ hQ a w kk => ?_)
    show wpY_step QQ (y_count, y_place, nI s, a, w, kk, y_least, y_top, y_frames, y_invalid, nI (yb R + nv + E.length), nI (fb R + F.length + 1), nI (R.length + 1), nI (120 - fu), 0, -1, y_result, y_used, y_waits, y_printed, y_bytes, y_there, y_types, y_typeSig, y_imports, y_functions, y_sig, y_what, y_typeAt, y_localsAt, y_globals, y_globalKind, y_globalFree, y_globalValue, y_entries, y_entriesAt, y_hasMemory, y_memory, y_nest, y_kinds, y_shape, y_gives, y_height, y_dead, y_stack, y_labelAt, y_labelHeight, y_labelGives, y_callModule, y_callFunction, y_callBack, y_callBase, y_callLabels, y_waiting, y_prints) (nI p)
    refine y_pre Q hpn (fun x z hx hin hv => y_21 Q hpn h66 hRd hin (fun k' hk' => (pk_lt (C s p) 0 (fun y => absurd y (by omega)) (fun _ => pk_lt 12 (C s p) (fun y => absurd y (by omega)) (fun _ => pk_eq (C s p) 0 (fun y => absurd y (by omega)) (fun _ => pk_eq (C s p) 1 (fun y => absurd y (by omega)) (fun _ => pk_eq (C s p) 2 (fun y => absurd y (by omega)) (fun _ => pk_eq (C s p) 3 (fun y => absurd y (by omega)) (fun _ => pk_eq (C s p) 4 (fun y => absurd y (by omega)) (fun _ => pk_eq (C s p) 5 (fun _ =>  ?_) (fun y => absurd y (by omega))))))))))))
    refine nm_r (nI_p (fb R + F.length + 1) (by omega)) ?_
    rw [enx]
    refine y_endOf Q false 0 rfl j e e2 (fun a w k => ?_)
    exact eq_p (P := fun z => QQ z _) (nI_s1 e) (hQ _ _ _)
theorem op_6 (W : wo_ok B C N PP n cd x_byteCount x_wrongPlace x_firstWaiting x_waitingCount x_printCount x_code x_facts x_partner x_loaded x_globals x_memories x_waiting x_prints y_count y_place y_waits y_printed y_bytes y_there y_types y_typeSig y_imports y_functions y_sig y_what y_localsAt y_globals y_globalValue y_entries y_entriesAt y_hasMemory y_memory y_waiting y_prints) (hfu : fu ≤ 120) (hR : R.length < 10) (AO : a_ok B C N PP 0 s f nv g p E L F) (CR : ch_ok B C N PP g0 g R) (XA : xa_ok x_frameAt x_frameHeight x_values x_variables x_activeSlot x_activeGives x_activeFrame ((s, f, nv, g, p, E, L, F) :: R)) (AR : ar_ok x_activeResume R) (YA : ya_ok y_stack y_labelAt y_labelHeight y_labelGives y_callModule y_callFunction y_callBack y_callBase y_callLabels ((s, f, nv, g, p, E, L, F) :: R)) (hop : C s p = 6) (h : ∀ u' v' q, nxt B C N PP n cd g0 (mu ((s, f, nv, g, p, E, L, F) :: R) fu) u' v' q → ystep (y_count, y_place, nI s, y_pos, y_wrong, y_constant, y_least, y_top, y_frames, y_invalid, nI (yb R + nv + E.length), nI (fb R + F.length), nI (R.length + 1), nI (120 - fu), 0, -1, y_result, y_used, y_waits, y_printed, y_bytes, y_there, y_types, y_typeSig, y_imports, y_functions, y_sig, y_what, y_typeAt, y_localsAt, y_globals, y_globalKind, y_globalFree, y_globalValue, y_entries, y_entriesAt, y_hasMemory, y_memory, y_nest, y_kinds, y_shape, y_gives, y_height, y_dead, y_stack, y_labelAt, y_labelHeight, y_labelGives, y_callModule, y_callFunction, y_callBack, y_callBase, y_callLabels, y_waiting, y_prints) v' (nI p) q → post u') : wpX_step post (x_byteCount, x_wrongPlace, nI p, nI (fb R + F.length), x_kindCount, nI (vb R + E.length), nI (R.length + 1), x_goesOn, -1, 0, -1, nI fu, x_firstWaiting, x_waitingCount, x_printCount, x_code, x_facts, x_partner, x_loaded, x_globals, x_memories, x_frameAt, x_frameHeight, x_frameResult, x_frameDead, x_kinds, x_values, x_variables, x_activeSlot, x_activeGives, x_activeFrame, x_activeResume, x_waiting, x_prints) := by
  obtain ⟨sm, mp, hN, M, Q, ⟨k, wkk⟩, eS, b1, b2, b3, b4, hs, hpn, h66, hRd, htv, hE20, hh, hd, hnv, hp⟩ := op_f W hfu hR AO CR XA AR YA
  obtain ⟨ok, okn⟩ := wk_s wkk
  have enx : nx (C s) p = p + 1 := nx_1 (by omega)
  obtain ⟨k1, k2⟩ := a_end AO hN hop
  have hF := AO.2.2.2.2.2.2.2.2.1
  have hF8 := AO.2.2.2.2.2.2.2.2.2.1
  have hxb := XA.2.2.2.2.2.1
  obtain ⟨z1, z2, z3⟩ := yfr_at YA.2.2.1 hF
  refine r_ctl hs M hp hR rfl eS rfl (by omega) (pk_lt (C s p) 0 (fun y => absurd y (by omega)) (fun _ => pk_lt 10 (C s p) (fun y => absurd y (by omega)) (fun _ => pk_eq (C s p) 0 (fun y => absurd y (by omega)) (fun _ => pk_eq (C s p) 1 (fun y => absurd y (by omega)) (fun _ => pk_eq (C s p) 2 (fun y => absurd y (by omega)) (fun _ => pk_eq (C s p) 3 (fun y => absurd y (by omega)) (fun _ => pk_eq (C s p) 4 (fun y => absurd y (by omega)) (fun _ => pk_eq (C s p) 5 (fun y => absurd y (by omega)) (fun _ => pk_eq (C s p) 6 (fun _ =>  ?_) (fun y => absurd y (by omega)))))))))))
  have eF' : x_activeFrame (nI (R.length + 1 - 1)).toNatClampNeg = nI (fb R) := by rw [show R.length + 1 - 1 = R.length from rfl, pk_cl R.length]; exact hxb
  cases F with
  | nil => exact absurd rfl hF
  | cons x F =>
    rw [List.length_cons] at hF8 z1
    have z1' : y_labelAt (fb R + F.length) = if F = [] then -1 else nI (f_o (x :: F)) := z1
    have ec : (nI (fb R + (x :: F).length) : Int32) - 1 = nI (fb R + F.length) := nI_p (fb R + F.length + 1) (by omega)
    unfold wpX_runEnd
    refine xx_last (k := R.length + 1) (l := 10) (by omega) (by omega) (by omega) ⟨pk_in R.length 10 hR, pk_le (fb R + F.length) (fb R) (fun y => ?_) (fun y => ?_) ec eF'⟩
    · have hnil : F = [] := List.length_eq_zero_iff.mp (by omega)
      subst hnil
      refine lv (X := []) (E0 := E) W hfu hR AO CR XA AR YA rfl (k2 rfl) hh (fun u hu => hu) (fun v' q hq QQ hQ a w kk => ?_) h
      show wpY_step QQ (y_count, y_place, nI s, a, w, kk, y_least, y_top, y_frames, y_invalid, nI (yb R + nv + E.length), nI (fb R + 1), nI (R.length + 1), nI (120 - fu), 0, -1, y_result, y_used, y_waits, y_printed, y_bytes, y_there, y_types, y_typeSig, y_imports, y_functions, y_sig, y_what, y_typeAt, y_localsAt, y_globals, y_globalKind, y_globalFree, y_globalValue, y_entries, y_entriesAt, y_hasMemory, y_memory, y_nest, y_kinds, y_shape, y_gives, y_height, y_dead, y_stack, y_labelAt, y_labelHeight, y_labelGives, y_callModule, y_callFunction, y_callBack, y_callBase, y_callLabels, y_waiting, y_prints) (nI p)
      refine y_pre Q hpn (fun x z hx hin hv => y_21 Q hpn h66 hRd hin (fun k' hk' => (pk_lt (C s p) 0 (fun y => absurd y (by omega)) (fun _ => pk_lt 12 (C s p) (fun y => absurd y (by omega)) (fun _ => pk_eq (C s p) 0 (fun y => absurd y (by omega)) (fun _ => pk_eq (C s p) 1 (fun y => absurd y (by omega)) (fun _ => pk_eq (C s p) 2 (fun y => absurd y (by omega)) (fun _ => pk_eq (C s p) 3 (fun y => absurd y (by omega)) (fun _ => pk_eq (C s p) 4 (fun y => absurd y (by omega)) (fun _ => pk_eq (C s p) 5 (fun y => absurd y (by omega)) (fun _ => pk_eq (C s p) 6 (fun _ =>  ?_) (fun y => absurd y (by omega)))))))))))))
      have ec0 : (nI (fb R + 1) : Int32) - 1 = nI (fb R) := nI_p (fb R + 1) (by omega)
      refine ⟨pk_in (fb R) 100 (by omega) ec0, br_f ?_ (hq _ hQ _ _ _)⟩
      rw [pk_cl (fb R) ec0, show y_labelAt (fb R) = -1 from z1']
      decide
    · have hne : F ≠ [] := fun q => by rw [q] at y; exact absurd y (by simp)
      obtain ⟨k3, AO'⟩ := k1 hne
      refine nm_r ec (r_140 rfl ?_)
      rw [enx]
      refine h _ (y_count, y_place, nI s, y_pos, y_wrong, y_constant, y_least, y_top, y_frames, y_invalid, nI (yb R + nv + E.length), nI (fb R + F.length), nI (R.length + 1), nI (120 - fu), 0, -1, y_result, y_used, y_waits, y_printed, y_bytes, y_there, y_types, y_typeSig, y_imports, y_functions, y_sig, y_what, y_typeAt, y_localsAt, y_globals, y_globalKind, y_globalFree, y_globalValue, y_entries, y_entriesAt, y_hasMemory, y_memory, y_nest, y_kinds, y_shape, y_gives, y_height, y_dead, y_stack, y_labelAt, y_labelHeight, y_labelGives, y_callModule, y_callFunction, y_callBack, y_callBase, y_callLabels, y_waiting, y_prints) (nI (p + 1)) (fin_c W hfu hR AO' CR (xa_F (X := []) (j := 0) (d := 1) XA) AR (ya_F (X := []) (j := 0) (d := 1) YA) (mu_s (by omega) (by omega))) (fun QQ hQ a w kk => ?_)
      show wpY_step QQ (y_count, y_place, nI s, a, w, kk, y_least, y_top, y_frames, y_invalid, nI (yb R + nv + E.length), nI (fb R + F.length + 1), nI (R.length + 1), nI (120 - fu), 0, -1, y_result, y_used, y_waits, y_printed, y_bytes, y_there, y_types, y_typeSig, y_imports, y_functions, y_sig, y_what, y_typeAt, y_localsAt, y_globals, y_globalKind, y_globalFree, y_globalValue, y_entries, y_entriesAt, y_hasMemory, y_memory, y_nest, y_kinds, y_shape, y_gives, y_height, y_dead, y_stack, y_labelAt, y_labelHeight, y_labelGives, y_callModule, y_callFunction, y_callBack, y_callBase, y_callLabels, y_waiting, y_prints) (nI p)
      refine y_pre Q hpn (fun x' z hx hin hv => y_21 Q hpn h66 hRd hin (fun k' hk' => (pk_lt (C s p) 0 (fun y => absurd y (by omega)) (fun _ => pk_lt 12 (C s p) (fun y => absurd y (by omega)) (fun _ => pk_eq (C s p) 0 (fun y => absurd y (by omega)) (fun _ => pk_eq (C s p) 1 (fun y => absurd y (by omega)) (fun _ => pk_eq (C s p) 2 (fun y => absurd y (by omega)) (fun _ => pk_eq (C s p) 3 (fun y => absurd y (by omega)) (fun _ => pk_eq (C s p) 4 (fun y => absurd y (by omega)) (fun _ => pk_eq (C s p) 5 (fun y => absurd y (by omega)) (fun _ => pk_eq (C s p) 6 (fun _ =>  ?_) (fun y => absurd y (by omega)))))))))))))
      rw [if_neg hne] at z1'
      have ec1 : (nI (fb R + F.length + 1) : Int32) - 1 = nI (fb R + F.length) := nI_p (fb R + F.length + 1) (by omega)
      have eA : y_labelAt ((nI (fb R + F.length + 1) : Int32) - 1).toNatClampNeg = nI (f_o (x :: F)) := by rw [pk_cl (fb R + F.length) ec1]; exact z1'
      have ho : f_o (x :: F) < 140 := by
        obtain ⟨c1, c2, c3, c4, c5, c6, c7, c8⟩ := (fo_at (d := 0) AO.2.2.2.2.2.2.2.2.2.2.1 (by simp)).2.2.2.2.2 (by have := List.length_pos_iff.mpr hne; simp; omega)
        rw [List.drop_zero] at c5
        omega
      refine ⟨pk_in (fb R + F.length) 100 (by omega) ec1, pk_le 0 (f_o (x :: F)) (fun _ => nm_r ec1 ?_) (fun q => absurd q (by omega)) rfl eA⟩
      rw [enx]
      exact hQ _ _ _
theorem op_4 (W : wo_ok B C N PP n cd x_byteCount x_wrongPlace x_firstWaiting x_waitingCount x_printCount x_code x_facts x_partner x_loaded x_globals x_memories x_waiting x_prints y_count y_place y_waits y_printed y_bytes y_there y_types y_typeSig y_imports y_functions y_sig y_what y_localsAt y_globals y_globalValue y_entries y_entriesAt y_hasMemory y_memory y_waiting y_prints) (hfu : fu ≤ 120) (hR : R.length < 10) (AO : a_ok B C N PP 0 s f nv g p E L F) (CR : ch_ok B C N PP g0 g R) (XA : xa_ok x_frameAt x_frameHeight x_values x_variables x_activeSlot x_activeGives x_activeFrame ((s, f, nv, g, p, E, L, F) :: R)) (AR : ar_ok x_activeResume R) (YA : ya_ok y_stack y_labelAt y_labelHeight y_labelGives y_callModule y_callFunction y_callBack y_callBase y_callLabels ((s, f, nv, g, p, E, L, F) :: R)) (hop : C s p = 4) (h : ∀ u' v' q, nxt B C N PP n cd g0 (mu ((s, f, nv, g, p, E, L, F) :: R) fu) u' v' q → ystep (y_count, y_place, nI s, y_pos, y_wrong, y_constant, y_least, y_top, y_frames, y_invalid, nI (yb R + nv + E.length), nI (fb R + F.length), nI (R.length + 1), nI (120 - fu), 0, -1, y_result, y_used, y_waits, y_printed, y_bytes, y_there, y_types, y_typeSig, y_imports, y_functions, y_sig, y_what, y_typeAt, y_localsAt, y_globals, y_globalKind, y_globalFree, y_globalValue, y_entries, y_entriesAt, y_hasMemory, y_memory, y_nest, y_kinds, y_shape, y_gives, y_height, y_dead, y_stack, y_labelAt, y_labelHeight, y_labelGives, y_callModule, y_callFunction, y_callBack, y_callBase, y_callLabels, y_waiting, y_prints) v' (nI p) q → post u') : wpX_step post (x_byteCount, x_wrongPlace, nI p, nI (fb R + F.length), x_kindCount, nI (vb R + E.length), nI (R.length + 1), x_goesOn, -1, 0, -1, nI fu, x_firstWaiting, x_waitingCount, x_printCount, x_code, x_facts, x_partner, x_loaded, x_globals, x_memories, x_frameAt, x_frameHeight, x_frameResult, x_frameDead, x_kinds, x_values, x_variables, x_activeSlot, x_activeGives, x_activeFrame, x_activeResume, x_waiting, x_prints) := by
  obtain ⟨sm, mp, hN, M, Q, ⟨k, wkk⟩, eS, b1, b2, b3, b4, hs, hpn, h66, hRd, htv, hE20, hh, hd, hnv, hp⟩ := op_f W hfu hR AO CR XA AR YA
  obtain ⟨ok, okn⟩ := wk_s wkk
  obtain ⟨v, E', q, j, e1, e2, e3, enx, e5, e6, e7, e8, e9, e10, e11⟩ := a_alt AO hN hop
  obtain ⟨E2, _, f2, _, _, _, f6, AO2⟩ := a_open AO hN (by omega)
  obtain ⟨v2, f3⟩ := f2 hop
  rw [e1] at f3
  have f4 : E' = E2 := (List.cons.inj f3).2
  subst f4
  subst e1
  simp only [List.length_cons] at hE20
  have hF := AO.2.2.2.2.2.2.2.2.1
  have hPt := (W.2.2.2.2.2.2.2.2.2.2.1 s hs AO.2.1).2.1.2.2
  have hn2 := (wk_n wkk).2.2.1
  obtain ⟨q0, q2⟩ := XA.1
  obtain ⟨r0, r2⟩ := YA.1
  have es : (nI (yb R + nv + E'.length + 1) : Int32) - 1 = nI (yb R + nv + E'.length) := nI_p _ (by omega)
  have er : y_stack ((nI (yb R + nv + E'.length + 1) : Int32) - 1).toNatClampNeg = v := by rw [pk_cl (yb R + nv + E'.length) es]; exact r0
  have hce := M.2.1 q
  refine r_ctl hs M hp hR rfl eS rfl (by omega) (pk_lt (C s p) 0 (fun y => absurd y (by omega)) (fun _ => pk_lt 10 (C s p) (fun y => absurd y (by omega)) (fun _ => pk_eq (C s p) 0 (fun y => absurd y (by omega)) (fun _ => pk_eq (C s p) 1 (fun y => absurd y (by omega)) (fun _ => pk_eq (C s p) 2 (fun y => absurd y (by omega)) (fun _ => pk_eq (C s p) 3 (fun y => absurd y (by omega)) (fun _ => pk_eq (C s p) 4 (fun _ =>  ?_) (fun y => absurd y (by omega)))))))))
  unfold wpX_runIf
  refine r_popv (vb R + E'.length) v (by omega) rfl q0 (br_c (fun zv => ?_) (fun zv => ?_))
  · unfold wX_runIf_14
    refine r_open (fb R + F.length) (by omega) rfl (br_t rfl ?_)
    refine xx_part (P := PP s) (hPt p hp) (by omega) hp ?_
    rw [e2]
    refine xx_byte (c := C s) (show mx_ok _ s (C s) from M) (by omega) (by omega) (pk_eq (C s q) 5 (fun h5 => ?_) (fun h5 => ?_))
    · refine nm_r (nI_1 q) (r_140 rfl ?_)
      refine h _ (y_count, y_place, nI s, y_pos, y_wrong, y_constant, y_least, y_top, y_frames, y_invalid, nI (yb R + nv + E'.length), nI (fb R + F.length + 1), nI (R.length + 1), nI (120 - fu), 0, -1, y_result, y_used, y_waits, y_printed, y_bytes, y_there, y_types, y_typeSig, y_imports, y_functions, y_sig, y_what, y_typeAt, y_localsAt, y_globals, y_globalKind, y_globalFree, y_globalValue, y_entries, y_entriesAt, y_hasMemory, y_memory, y_nest, y_kinds, y_shape, y_gives, y_height, y_dead, y_stack, upd y_labelAt (fb R + F.length) (nI p), upd y_labelHeight (fb R + F.length) (nI (yb R + nv + E'.length)), upd y_labelGives (fb R + F.length) (nI (C s (p + 1))), y_callModule, y_callFunction, y_callBack, y_callBase, y_callLabels, y_waiting, y_prints) (nI (q + 1)) (fin_c W hfu hR (e10 h5) CR (xa_open (X := [(1, v)]) XA b4) AR (ya_open (cd := 5) (X := [(1, v)]) YA hF) (mu_s (by omega) (by omega))) (fun QQ hQ a w kk => ?_)
      show wpY_step QQ (y_count, y_place, nI s, a, w, kk, y_least, y_top, y_frames, y_invalid, nI (yb R + nv + E'.length + 1), nI (fb R + F.length), nI (R.length + 1), nI (120 - fu), 0, -1, y_result, y_used, y_waits, y_printed, y_bytes, y_there, y_types, y_typeSig, y_imports, y_functions, y_sig, y_what, y_typeAt, y_localsAt, y_globals, y_globalKind, y_globalFree, y_globalValue, y_entries, y_entriesAt, y_hasMemory, y_memory, y_nest, y_kinds, y_shape, y_gives, y_height, y_dead, y_stack, y_labelAt, y_labelHeight, y_labelGives, y_callModule, y_callFunction, y_callBack, y_callBase, y_callLabels, y_waiting, y_prints) (nI p)
      refine y_pre Q hpn (fun x z hx hin hv => y_21 Q hpn h66 hRd hin (fun k' hk' => (pk_lt (C s p) 0 (fun y => absurd y (by omega)) (fun _ => pk_lt 12 (C s p) (fun y => absurd y (by omega)) (fun _ => pk_eq (C s p) 0 (fun y => absurd y (by omega)) (fun _ => pk_eq (C s p) 1 (fun y => absurd y (by omega)) (fun _ => pk_eq (C s p) 2 (fun y => absurd y (by omega)) (fun _ => pk_eq (C s p) 3 (fun y => absurd y (by omega)) (fun _ => pk_eq (C s p) 4 (fun _ =>  ?_) (fun y => absurd y (by omega)))))))))))
      refine nm_r es ⟨pk_in (yb R + nv + E'.length) 320 (by omega) es, br_t (er.trans zv) ?_⟩
      rw [enx]
      refine y_endOf Q true 1 rfl j q e3 (fun a w k => ?_)
      refine yr_at (c := C s) (m := s) rfl (by omega) (by omega) (Q.2.2.2.1 q (by have := sv_len _ _ _ _ e3; omega)) (pk_eq (C s q) 5 (fun _ => ?_) (fun y => absurd h5 y))
      refine y_label (fb R + F.length) (yb R + nv + E'.length) (C s (p + 1)) (by omega) (by omega) (by omega) rfl rfl (hv.trans (hx (by omega)).1) (nr_s (by omega)) ?_
      exact eq_p (P := fun z => QQ z _) (nI_1 q) (hQ _ _ _)
    · have h6 : C s q = 6 := by omega
      refine r_140 rfl ?_
      refine h _ (y_count, y_place, nI s, y_pos, y_wrong, y_constant, y_least, y_top, y_frames, y_invalid, nI (yb R + nv + E'.length), nI (fb R + F.length), nI (R.length + 1), nI (120 - fu), 0, -1, y_result, y_used, y_waits, y_printed, y_bytes, y_there, y_types, y_typeSig, y_imports, y_functions, y_sig, y_what, y_typeAt, y_localsAt, y_globals, y_globalKind, y_globalFree, y_globalValue, y_entries, y_entriesAt, y_hasMemory, y_memory, y_nest, y_kinds, y_shape, y_gives, y_height, y_dead, y_stack, y_labelAt, y_labelHeight, y_labelGives, y_callModule, y_callFunction, y_callBack, y_callBase, y_callLabels, y_waiting, y_prints) (nI (q + 1)) (fin_re (e := q) W hfu hR (e11 h6) CR ?_ AR (ya_0 (X := [(1, v)]) YA) rfl h6 (mu_s (by omega) (by omega))) (fun QQ hQ a w kk => ?_)
      · have z := xa_open (cd := 4) (gg := 0) (dd := false) (o := p) (p' := q + 1) (X := [(1, v)]) XA b4
        exact ⟨z.1, z.2.1, z.2.2.1.2.2, z.2.2.2⟩
      show wpY_step QQ (y_count, y_place, nI s, a, w, kk, y_least, y_top, y_frames, y_invalid, nI (yb R + nv + E'.length + 1), nI (fb R + F.length), nI (R.length + 1), nI (120 - fu), 0, -1, y_result, y_used, y_waits, y_printed, y_bytes, y_there, y_types, y_typeSig, y_imports, y_functions, y_sig, y_what, y_typeAt, y_localsAt, y_globals, y_globalKind, y_globalFree, y_globalValue, y_entries, y_entriesAt, y_hasMemory, y_memory, y_nest, y_kinds, y_shape, y_gives, y_height, y_dead, y_stack, y_labelAt, y_labelHeight, y_labelGives, y_callModule, y_callFunction, y_callBack, y_callBase, y_callLabels, y_waiting, y_prints) (nI p)
      refine y_pre Q hpn (fun x z hx hin hv => y_21 Q hpn h66 hRd hin (fun k' hk' => (pk_lt (C s p) 0 (fun y => absurd y (by omega)) (fun _ => pk_lt 12 (C s p) (fun y => absurd y (by omega)) (fun _ => pk_eq (C s p) 0 (fun y => absurd y (by omega)) (fun _ => pk_eq (C s p) 1 (fun y => absurd y (by omega)) (fun _ => pk_eq (C s p) 2 (fun y => absurd y (by omega)) (fun _ => pk_eq (C s p) 3 (fun y => absurd y (by omega)) (fun _ => pk_eq (C s p) 4 (fun _ =>  ?_) (fun y => absurd y (by omega)))))))))))
      refine nm_r es ⟨pk_in (yb R + nv + E'.length) 320 (by omega) es, br_t (er.trans zv) ?_⟩
      rw [enx]
      refine y_endOf Q true 1 rfl j q e3 (fun a w k => ?_)
      refine yr_at (c := C s) (m := s) rfl (by omega) (by omega) (Q.2.2.2.1 q (by have := sv_len _ _ _ _ e3; omega)) (pk_eq (C s q) 5 (fun y => absurd y h5) (fun _ => ?_))
      exact eq_p (P := fun z => QQ z _) (nI_1 q) (hQ _ _ _)
  · unfold wX_runIf_14
    refine r_open (fb R + F.length) (by omega) rfl (br_f (by decide) ?_)
    refine r_140 rfl ?_
    rw [enx]
    refine h _ (y_count, y_place, nI s, y_pos, y_wrong, y_constant, y_least, y_top, y_frames, y_invalid, nI (yb R + nv + E'.length), nI (fb R + F.length + 1), nI (R.length + 1), nI (120 - fu), 0, -1, y_result, y_used, y_waits, y_printed, y_bytes, y_there, y_types, y_typeSig, y_imports, y_functions, y_sig, y_what, y_typeAt, y_localsAt, y_globals, y_globalKind, y_globalFree, y_globalValue, y_entries, y_entriesAt, y_hasMemory, y_memory, y_nest, y_kinds, y_shape, y_gives, y_height, y_dead, y_stack, upd y_labelAt (fb R + F.length) (nI p), upd y_labelHeight (fb R + F.length) (nI (yb R + nv + E'.length)), upd y_labelGives (fb R + F.length) (nI (if C s p = 3 then 0 else C s (p + 1))), y_callModule, y_callFunction, y_callBack, y_callBase, y_callLabels, y_waiting, y_prints) (nI (p + 2)) (fin_c W hfu hR AO2 CR (xa_open (X := [(1, v)]) XA b4) AR (ya_open (X := [(1, v)]) YA hF) (mu_s (by omega) (by omega))) (fun QQ hQ a w kk => ?_)
    show wpY_step QQ (y_count, y_place, nI s, a, w, kk, y_least, y_top, y_frames, y_invalid, nI (yb R + nv + E'.length + 1), nI (fb R + F.length), nI (R.length + 1), nI (120 - fu), 0, -1, y_result, y_used, y_waits, y_printed, y_bytes, y_there, y_types, y_typeSig, y_imports, y_functions, y_sig, y_what, y_typeAt, y_localsAt, y_globals, y_globalKind, y_globalFree, y_globalValue, y_entries, y_entriesAt, y_hasMemory, y_memory, y_nest, y_kinds, y_shape, y_gives, y_height, y_dead, y_stack, y_labelAt, y_labelHeight, y_labelGives, y_callModule, y_callFunction, y_callBack, y_callBase, y_callLabels, y_waiting, y_prints) (nI p)
    rw [if_neg (show ¬ C s p = 3 by omega)] at hQ
    refine y_pre Q hpn (fun x z hx hin hv => y_21 Q hpn h66 hRd hin (fun k' hk' => (pk_lt (C s p) 0 (fun y => absurd y (by omega)) (fun _ => pk_lt 12 (C s p) (fun y => absurd y (by omega)) (fun _ => pk_eq (C s p) 0 (fun y => absurd y (by omega)) (fun _ => pk_eq (C s p) 1 (fun y => absurd y (by omega)) (fun _ => pk_eq (C s p) 2 (fun y => absurd y (by omega)) (fun _ => pk_eq (C s p) 3 (fun y => absurd y (by omega)) (fun _ => pk_eq (C s p) 4 (fun _ =>  ?_) (fun y => absurd y (by omega)))))))))))
    refine nm_r es ⟨pk_in (yb R + nv + E'.length) 320 (by omega) es, br_f (fun y => zv (er.symm.trans y)) ?_⟩
    rw [enx]
    exact y_label (fb R + F.length) (yb R + nv + E'.length) (C s (p + 1)) (by omega) (by omega) (by omega) rfl rfl (hv.trans (hx (by omega)).1) (nr_s (by omega)) (hQ _ _ _)
end
