theorem lo32 (v : Int64) : v &&& 4294967295 = lN (uN v % 4294967296) := by
  have h : uN (v &&& 4294967295) = uN v % 4294967296 := uN_lo v
  rw [uN_l (v &&& 4294967295), h]
section
variable {x_byteCount x_wrongPlace x_at x_frameCount x_kindCount x_valueCount x_activeCount x_goesOn x_outcome x_trapPlace x_fuelUsed x_firstWaiting x_waitingCount x_printCount : Int32} {x_resultValue : Int64} {x_code x_facts x_partner x_loaded x_memories x_frameAt x_frameHeight x_frameResult x_frameDead x_kinds x_activeSlot x_activeGives x_activeFrame x_activeResume x_waiting x_prints : Nat → Int32} {x_globals x_values x_variables : Nat → Int64}
variable {y_count y_place y_m y_pos y_wrong y_least y_top y_frames y_invalid y_sp y_labels y_active y_fuel y_outcome y_trappedAt y_used y_waits y_printed : Int32} {y_constant y_result : Int64} {y_bytes y_there y_types y_typeSig y_imports y_functions y_sig y_what y_typeAt y_localsAt y_globals y_globalKind y_globalFree y_entries y_entriesAt y_hasMemory y_memory y_nest y_kinds y_shape y_gives y_height y_dead y_labelAt y_labelHeight y_labelGives y_callModule y_callFunction y_callBack y_callBase y_callLabels y_waiting y_prints : Nat → Int32} {y_globalValue y_stack : Nat → Int64}
variable {B : Nat → Bool} {C : Nat → Nat → Nat} {N : Nat → Nat} {PP : Nat → Nat → Nat} {n : Nat} {cd : Nat → Nat} {g0 fu s f nv g p : Nat} {E : List ev} {L : Nat → Int64} {F : List vt_Fr} {R : List ac}
variable {post : SX → Prop}
theorem op_9 (W : wo_ok B C N PP n cd x_byteCount x_wrongPlace x_firstWaiting x_waitingCount x_printCount x_code x_facts x_partner x_loaded x_globals x_memories x_waiting x_prints y_count y_place y_waits y_printed y_bytes y_there y_types y_typeSig y_imports y_functions y_sig y_what y_localsAt y_globals y_globalValue y_entries y_entriesAt y_hasMemory y_memory y_waiting y_prints) (hfu : fu ≤ 120) (hR : R.length < 10) (AO : a_ok B C N PP 0 s f nv g p E L F) (CR : ch_ok B C N PP g0 g R) (XA : xa_ok x_frameAt x_frameHeight x_values x_variables x_activeSlot x_activeGives x_activeFrame ((s, f, nv, g, p, E, L, F) :: R)) (AR : ar_ok x_activeResume R) (YA : ya_ok y_stack y_labelAt y_labelHeight y_labelGives y_callModule y_callFunction y_callBack y_callBase y_callLabels ((s, f, nv, g, p, E, L, F) :: R)) (hop : C s p = 9) (h : ∀ u' v' q, nxt B C N PP n cd g0 (mu ((s, f, nv, g, p, E, L, F) :: R) fu) u' v' q → ystep (y_count, y_place, nI s, y_pos, y_wrong, y_constant, y_least, y_top, y_frames, y_invalid, nI (yb R + nv + E.length), nI (fb R + F.length), nI (R.length + 1), nI (120 - fu), 0, -1, y_result, y_used, y_waits, y_printed, y_bytes, y_there, y_types, y_typeSig, y_imports, y_functions, y_sig, y_what, y_typeAt, y_localsAt, y_globals, y_globalKind, y_globalFree, y_globalValue, y_entries, y_entriesAt, y_hasMemory, y_memory, y_nest, y_kinds, y_shape, y_gives, y_height, y_dead, y_stack, y_labelAt, y_labelHeight, y_labelGives, y_callModule, y_callFunction, y_callBack, y_callBase, y_callLabels, y_waiting, y_prints) v' (nI p) q → post u') : wpX_step post (x_byteCount, x_wrongPlace, nI p, nI (fb R + F.length), x_kindCount, nI (vb R + E.length), nI (R.length + 1), x_goesOn, -1, 0, -1, nI fu, x_firstWaiting, x_waitingCount, x_printCount, x_code, x_facts, x_partner, x_loaded, x_globals, x_memories, x_frameAt, x_frameHeight, x_frameResult, x_frameDead, x_kinds, x_values, x_variables, x_activeSlot, x_activeGives, x_activeFrame, x_activeResume, x_waiting, x_prints) := by
  obtain ⟨sm, mp, hN, M, Q, ⟨k, wkk⟩, eS, b1, b2, b3, b4, hs, hpn, h66, hRd, htv, hE20, hh, hd, hnv, hp⟩ := op_f W hfu hR AO CR XA AR YA
  obtain ⟨ok, okn⟩ := wk_s wkk
  have hn2 := (wk_n wkk).2.2.1
  have enx : nx (C s) p = p + 3 + C s (p + 1) := by unfold nx; rw [if_pos hop]
  obtain ⟨v, E', e1, e2, e3, e4⟩ := v_9 hop ok hd htv hh
  subst e1
  simp only [List.length_cons] at hE20
  obtain ⟨q0, q2⟩ := XA.1
  obtain ⟨r0, r2⟩ := YA.1
  have hc1 : C s (p + 1) < 256 := M.2.1 _
  have es : (nI (yb R + nv + E'.length + 1) : Int32) - 1 = nI (yb R + nv + E'.length) := nI_p _ (by omega)
  have er : y_stack ((nI (yb R + nv + E'.length + 1) : Int32) - 1).toNatClampNeg = v := by rw [pk_cl (yb R + nv + E'.length) es]; exact r0
  obtain ⟨i, hi⟩ : ∃ i, i = uN v % 4294967296 := ⟨_, rfl⟩
  have hi2 : i < 4294967296 := by omega
  have el : v &&& 4294967295 = lN i := by rw [hi]; exact lo32 v
  have ec : (nI (C s (p + 1))).toInt64 = lN (C s (p + 1)) := nI_l (by omega)
  have key : ∀ x : Nat, x ≤ C s (p + 1) → (∀ QQ : Int32 → SY → Prop, (∀ k', wY_step_277 QQ (nI p) (nI (p + 2) + nI x) y_count y_place (nI s) (nI (nx (C s) p)) 0 k' y_least y_top y_frames y_invalid (nI (yb R + nv + E'.length)) (nI (fb R + F.length)) (nI (R.length + 1)) (nI (120 - fu)) 0 (-1) y_result y_used y_waits y_printed y_bytes y_there y_types y_typeSig y_imports y_functions y_sig y_what y_typeAt y_localsAt y_globals y_globalKind y_globalFree y_globalValue y_entries y_entriesAt y_hasMemory y_memory y_nest y_kinds y_shape y_gives y_height y_dead y_stack y_labelAt y_labelHeight y_labelGives y_callModule y_callFunction y_callBack y_callBase y_callLabels y_waiting y_prints) → ∀ a w kk, wpY_step QQ (y_count, y_place, nI s, a, w, kk, y_least, y_top, y_frames, y_invalid, nI (yb R + nv + E'.length + 1), nI (fb R + F.length), nI (R.length + 1), nI (120 - fu), 0, -1, y_result, y_used, y_waits, y_printed, y_bytes, y_there, y_types, y_typeSig, y_imports, y_functions, y_sig, y_what, y_typeAt, y_localsAt, y_globals, y_globalKind, y_globalFree, y_globalValue, y_entries, y_entriesAt, y_hasMemory, y_memory, y_nest, y_kinds, y_shape, y_gives, y_height, y_dead, y_stack, y_labelAt, y_labelHeight, y_labelGives, y_callModule, y_callFunction, y_callBack, y_callBase, y_callLabels, y_waiting, y_prints) (nI p)) → wX_runControl_170 (fun u => match u with | (x_byteCount, x_wrongPlace, x_at, x_frameCount, x_kindCount, x_valueCount, x_activeCount, x_goesOn, x_outcome, x_resultValue, x_trapPlace, x_fuelUsed, x_firstWaiting, x_waitingCount, x_printCount, x_code, x_facts, x_partner, x_loaded, x_globals, x_memories, x_frameAt, x_frameHeight, x_frameResult, x_frameDead, x_kinds, x_values, x_variables, x_activeSlot, x_activeGives, x_activeFrame, x_activeResume, x_waiting, x_prints) => wX_step_140 post x_byteCount x_wrongPlace x_at x_frameCount x_kindCount x_valueCount x_activeCount x_goesOn x_outcome x_resultValue x_trapPlace x_fuelUsed x_firstWaiting x_waitingCount x_printCount x_code x_facts x_partner x_loaded x_globals x_memories x_frameAt x_frameHeight x_frameResult x_frameDead x_kinds x_values x_variables x_activeSlot x_activeGives x_activeFrame x_activeResume x_waiting x_prints) (nI s) (nI x) (nI p + 2) (nI s) x_byteCount x_wrongPlace (nI p) (nI (fb R + F.length)) x_kindCount (nI (vb R + E'.length)) (nI (R.length + 1)) (nI (nx (C s) p)) (-1) 0 (-1) (nI fu) x_firstWaiting x_waitingCount x_printCount x_code x_facts x_partner x_loaded x_globals x_memories x_frameAt x_frameHeight x_frameResult x_frameDead x_kinds x_values x_variables x_activeSlot x_activeGives x_activeFrame x_activeResume x_waiting x_prints := by
    intro x hx hY
    unfold wX_runControl_170
    rw [nI_s2, nI_add]
    refine xx_byte (c := C s) (show mx_ok _ s (C s) from M) (by omega) (by omega) ?_
    refine brn (X := [(1, v)]) (E0 := E') W hfu hR AO CR XA AR YA rfl (e4 x hx) e2 (fun u hu => hu) (fun v' q hq QQ hQ a w kk => ?_) h
    show wpY_step QQ (y_count, y_place, nI s, a, w, kk, y_least, y_top, y_frames, y_invalid, nI (yb R + nv + E'.length + 1), nI (fb R + F.length), nI (R.length + 1), nI (120 - fu), 0, -1, y_result, y_used, y_waits, y_printed, y_bytes, y_there, y_types, y_typeSig, y_imports, y_functions, y_sig, y_what, y_typeAt, y_localsAt, y_globals, y_globalKind, y_globalFree, y_globalValue, y_entries, y_entriesAt, y_hasMemory, y_memory, y_nest, y_kinds, y_shape, y_gives, y_height, y_dead, y_stack, y_labelAt, y_labelHeight, y_labelGives, y_callModule, y_callFunction, y_callBack, y_callBase, y_callLabels, y_waiting, y_prints) (nI p)
    refine hY QQ (fun k' => ?_) a w kk
    unfold wY_step_277
    rw [nI_add]
    refine yr_at (c := C s) (m := s) rfl (by omega) (by omega) (Q.2.2.2.1 _ (by omega)) ?_
    exact hq _ hQ _ _ _
  refine r_ctl hs M hp hR rfl eS rfl (by omega) (pk_lt (C s p) 0 (fun y => absurd y (by omega)) (fun _ => pk_lt 10 (C s p) (fun y => absurd y (by omega)) (fun _ => pk_eq (C s p) 0 (fun y => absurd y (by omega)) (fun _ => pk_eq (C s p) 1 (fun y => absurd y (by omega)) (fun _ => pk_eq (C s p) 2 (fun y => absurd y (by omega)) (fun _ => pk_eq (C s p) 3 (fun y => absurd y (by omega)) (fun _ => pk_eq (C s p) 4 (fun y => absurd y (by omega)) (fun _ => pk_eq (C s p) 5 (fun y => absurd y (by omega)) (fun _ => pk_eq (C s p) 6 (fun y => absurd y (by omega)) (fun _ => pk_eq (C s p) 7 (fun y => absurd y (by omega)) (fun _ => pk_eq (C s p) 8 (fun y => absurd y (by omega)) (fun _ => pk_eq (C s p) 9 (fun _ =>  ?_) (fun y => absurd y (by omega))))))))))))))
  refine r_popv (vb R + E'.length) v (by omega) rfl q0 (nm_r el ?_)
  have hle : (nI (C s (p + 1))).toInt64 ≤ lN i ↔ C s (p + 1) ≤ i := by rw [ec]; exact pk_lLE (by omega) (by omega)
  refine br_c (fun z => ?_) (fun z => ?_)
  · refine key (C s (p + 1)) (Nat.le_refl _) (fun QQ hQ a w kk => ?_)
    refine y_pre Q hpn (fun x z' hx hin hv => y_21 Q hpn h66 hRd hin (fun k' hk' => (pk_lt (C s p) 0 (fun y => absurd y (by omega)) (fun _ => pk_lt 12 (C s p) (fun y => absurd y (by omega)) (fun _ => pk_eq (C s p) 0 (fun y => absurd y (by omega)) (fun _ => pk_eq (C s p) 1 (fun y => absurd y (by omega)) (fun _ => pk_eq (C s p) 2 (fun y => absurd y (by omega)) (fun _ => pk_eq (C s p) 3 (fun y => absurd y (by omega)) (fun _ => pk_eq (C s p) 4 (fun y => absurd y (by omega)) (fun _ => pk_eq (C s p) 5 (fun y => absurd y (by omega)) (fun _ => pk_eq (C s p) 6 (fun y => absurd y (by omega)) (fun _ => pk_eq (C s p) 7 (fun y => absurd y (by omega)) (fun _ => pk_eq (C s p) 8 (fun y => absurd y (by omega)) (fun _ => pk_eq (C s p) 9 (fun _ =>  ?_) (fun y => absurd y (by omega))))))))))))))))
    rw [hv, (hx (by omega)).1]
    refine nm_r es ⟨pk_in (yb R + nv + E'.length) 320 (by omega) es, nm_r (show _ = lN i from by rw [er]; exact el) (br_t z ?_)⟩
    rw [nI_s2]
    exact hQ k'
  · have hlt : i < C s (p + 1) := by rw [hle] at z; omega
    rw [lN_i]
    refine key i (by omega) (fun QQ hQ a w kk => ?_)
    refine y_pre Q hpn (fun x z' hx hin hv => y_21 Q hpn h66 hRd hin (fun k' hk' => (pk_lt (C s p) 0 (fun y => absurd y (by omega)) (fun _ => pk_lt 12 (C s p) (fun y => absurd y (by omega)) (fun _ => pk_eq (C s p) 0 (fun y => absurd y (by omega)) (fun _ => pk_eq (C s p) 1 (fun y => absurd y (by omega)) (fun _ => pk_eq (C s p) 2 (fun y => absurd y (by omega)) (fun _ => pk_eq (C s p) 3 (fun y => absurd y (by omega)) (fun _ => pk_eq (C s p) 4 (fun y => absurd y (by omega)) (fun _ => pk_eq (C s p) 5 (fun y => absurd y (by omega)) (fun _ => pk_eq (C s p) 6 (fun y => absurd y (by omega)) (fun _ => pk_eq (C s p) 7 (fun y => absurd y (by omega)) (fun _ => pk_eq (C s p) 8 (fun y => absurd y (by omega)) (fun _ => pk_eq (C s p) 9 (fun _ =>  ?_) (fun y => absurd y (by omega))))))))))))))))
    rw [hv, (hx (by omega)).1]
    refine nm_r es ⟨pk_in (yb R + nv + E'.length) 320 (by omega) es, nm_r (show _ = lN i from by rw [er]; exact el) (br_f z ?_)⟩
    rw [nI_s2, lN_i]
    exact hQ k'
theorem op_ld (W : wo_ok B C N PP n cd x_byteCount x_wrongPlace x_firstWaiting x_waitingCount x_printCount x_code x_facts x_partner x_loaded x_globals x_memories x_waiting x_prints y_count y_place y_waits y_printed y_bytes y_there y_types y_typeSig y_imports y_functions y_sig y_what y_localsAt y_globals y_globalValue y_entries y_entriesAt y_hasMemory y_memory y_waiting y_prints) (hfu : fu ≤ 120) (hR : R.length < 10) (AO : a_ok B C N PP 0 s f nv g p E L F) (CR : ch_ok B C N PP g0 g R) (XA : xa_ok x_frameAt x_frameHeight x_values x_variables x_activeSlot x_activeGives x_activeFrame ((s, f, nv, g, p, E, L, F) :: R)) (AR : ar_ok x_activeResume R) (YA : ya_ok y_stack y_labelAt y_labelHeight y_labelGives y_callModule y_callFunction y_callBack y_callBase y_callLabels ((s, f, nv, g, p, E, L, F) :: R)) (hop : 22 ≤ C s p) (hop2 : C s p ≤ 24) (h : ∀ u' v' q, nxt B C N PP n cd g0 (mu ((s, f, nv, g, p, E, L, F) :: R) fu) u' v' q → ystep (y_count, y_place, nI s, y_pos, y_wrong, y_constant, y_least, y_top, y_frames, y_invalid, nI (yb R + nv + E.length), nI (fb R + F.length), nI (R.length + 1), nI (120 - fu), 0, -1, y_result, y_used, y_waits, y_printed, y_bytes, y_there, y_types, y_typeSig, y_imports, y_functions, y_sig, y_what, y_typeAt, y_localsAt, y_globals, y_globalKind, y_globalFree, y_globalValue, y_entries, y_entriesAt, y_hasMemory, y_memory, y_nest, y_kinds, y_shape, y_gives, y_height, y_dead, y_stack, y_labelAt, y_labelHeight, y_labelGives, y_callModule, y_callFunction, y_callBack, y_callBase, y_callLabels, y_waiting, y_prints) v' (nI p) q → post u') : wpX_step post (x_byteCount, x_wrongPlace, nI p, nI (fb R + F.length), x_kindCount, nI (vb R + E.length), nI (R.length + 1), x_goesOn, -1, 0, -1, nI fu, x_firstWaiting, x_waitingCount, x_printCount, x_code, x_facts, x_partner, x_loaded, x_globals, x_memories, x_frameAt, x_frameHeight, x_frameResult, x_frameDead, x_kinds, x_values, x_variables, x_activeSlot, x_activeGives, x_activeFrame, x_activeResume, x_waiting, x_prints) := by
  obtain ⟨sm, mp, hN, M, Q, ⟨k, wkk⟩, eS, b1, b2, b3, b4, hs, hpn, h66, hRd, htv, hE20, hh, hd, hnv, hp⟩ := op_f W hfu hR AO CR XA AR YA
  obtain ⟨ok, okn⟩ := wk_s wkk
  have hn2 := (wk_n wkk).2.2.1
  have enx : nx (C s) p = p + 2 := nx_2 (by omega)
  have hv := v_mem (n := N s) (f := f) (S := (ek E, F, false)) (c := C s) (p := p) (by omega) (by omega)
  unfold vt_mem at hv
  rw [if_neg (by omega), if_pos (by omega)] at hv
  obtain ⟨K, hK⟩ : ∃ K, K = (if C s p = 24 then 2 else 1) := ⟨_, rfl⟩
  have hK0 : K ≠ 0 := by rw [hK]; split <;> omega
  rw [← hK] at hv
  rw [hv] at ok
  have o1 := bf_gv ok
  have o2 := bf_bad (bf_pl o1)
  rw [o2.2, vb_f] at ok hv o1
  obtain ⟨x1, r, E3, rfl, hh3, hx1, e1, _, ht1, htv3, _⟩ := pe o1 hd htv hh
  rw [e1] at ok hv
  obtain ⟨hl, e4⟩ := ge ok
  rw [e4] at hv
  rw [ek_len] at hl
  simp only [List.length_cons] at hE20
  obtain ⟨q0, q2⟩ := XA.1
  obtain ⟨r0, r2⟩ := YA.1
  obtain ⟨b, hb⟩ := md_b (W.2.2.2.2.2.2.2.2.2.2.2 s hs AO.2.1)
  obtain ⟨l1, l2⟩ := ln_le (C s p)
  have hxc : C s (p + 1) < 256 := M.2.1 _
  obtain ⟨A, hA⟩ : ∃ A, A = uN r % 4294967296 + C s (p + 1) := ⟨_, rfl⟩
  have hA40 : A < 2 ^ 40 := by omega
  refine r_access hs M hp hR rfl eS rfl (by omega) (by omega) ?_
  refine pk_lt (C s p) 25 (fun _ => br_t rfl ?_) (fun z => absurd z (by omega))
  refine x_a26 (i := vb R + E3.length) (by omega) hxc rfl (by omega) q0 ?_
  rw [← hA]
  by_cases q : A + ln (C s p) ≤ 48
  · obtain ⟨V, hV⟩ : ∃ V : Int64, V = (if C s p = 23 then (gm (fun j => b (A + j)) (ln (C s p)) 0 0).toInt32.toInt64 else gm (fun j => b (A + j)) (ln (C s p)) 0 0) := ⟨_, rfl⟩
    have hV4 : V = (if ln (C s p) = 4 then (gm (fun j => b (A + j)) (ln (C s p)) 0 0).toInt32.toInt64 else gm (fun j => b (A + j)) (ln (C s p)) 0 0) := by
      rw [hV]
      have : C s p = 23 ↔ ln (C s p) = 4 := by unfold ln; constructor <;> intro z <;> revert z <;> (repeat' split) <;> omega
      by_cases z : C s p = 23
      · rw [if_pos z, if_pos (this.mp z)]
      · rw [if_neg z, if_neg (fun y => z (this.mpr y))]
    have hVs : K = 1 → sx64 V := by
      intro z
      by_cases z2 : C s p = 23
      · rw [hV, if_pos z2]; exact sx_i _
      · have z3 : C s p = 22 := by
          by_cases y : C s p = 24
          · rw [hK, if_pos y] at z; omega
          · omega
        rw [hV, if_neg z2, z3]
        exact ld8_sx _ (hb (A + 0) (by omega)).1
    have AO' := a_nx (X := [(x1, r)]) (X' := [(K, V)]) (E0 := E3) AO hN hh3 hv ⟨hK0, hVs, htv3⟩ (by show E3.length + 1 ≤ 20; omega) AO.2.2.2.2.2.2.2.2.2.2.2.2.2.1
    refine br_t ((lLe hA40 (by omega)).mpr q) (nm_r (show _ = nI (s * 48 + A) from ?_) (br_t rfl ⟨ln (C s p) + 1, ?_⟩))
    · rw [lN_i, show (48 : Int32) = nI 48 from rfl, pk_mul, nI_add]
    refine x_ld (b := fun j => b (A + j)) (v := 0) l2 (by omega) (fun j hj => ?_) (by omega) (fun acc hacc => ?_) (ln (C s p)) 0 _ 0 (by omega) (by omega) rfl
    · have := (hb (A + j) (by omega)).2.1
      rw [show s * 48 + A + j = s * 48 + (A + j) by omega]
      exact this
    have fin : wpX_push (fun u => match u with | (x_byteCount, x_wrongPlace, x_at, x_frameCount, x_kindCount, x_valueCount, x_activeCount, x_goesOn, x_outcome, x_resultValue, x_trapPlace, x_fuelUsed, x_firstWaiting, x_waitingCount, x_printCount, x_code, x_facts, x_partner, x_loaded, x_globals, x_memories, x_frameAt, x_frameHeight, x_frameResult, x_frameDead, x_kinds, x_values, x_variables, x_activeSlot, x_activeGives, x_activeFrame, x_activeResume, x_waiting, x_prints) => (fun u => match u with | (x_byteCount, x_wrongPlace, x_at, x_frameCount, x_kindCount, x_valueCount, x_activeCount, x_goesOn, x_outcome, x_resultValue, x_trapPlace, x_fuelUsed, x_firstWaiting, x_waitingCount, x_printCount, x_code, x_facts, x_partner, x_loaded, x_globals, x_memories, x_frameAt, x_frameHeight, x_frameResult, x_frameDead, x_kinds, x_values, x_variables, x_activeSlot, x_activeGives, x_activeFrame, x_activeResume, x_waiting, x_prints) => wX_step_140 post x_byteCount x_wrongPlace x_at x_frameCount x_kindCount x_valueCount x_activeCount x_goesOn x_outcome x_resultValue x_trapPlace x_fuelUsed x_firstWaiting x_waitingCount x_printCount x_code x_facts x_partner x_loaded x_globals x_memories x_frameAt x_frameHeight x_frameResult x_frameDead x_kinds x_values x_variables x_activeSlot x_activeGives x_activeFrame x_activeResume x_waiting x_prints) (x_byteCount, x_wrongPlace, x_at, x_frameCount, x_kindCount, x_valueCount, x_activeCount, x_goesOn, x_outcome, x_resultValue, x_trapPlace, x_fuelUsed, x_firstWaiting, x_waitingCount, x_printCount, x_code, x_facts, x_partner, x_loaded, x_globals, x_memories, x_frameAt, x_frameHeight, x_frameResult, x_frameDead, x_kinds, x_values, x_variables, x_activeSlot, x_activeGives, x_activeFrame, x_activeResume, x_waiting, x_prints)) (x_byteCount, x_wrongPlace, nI p, nI (fb R + F.length), x_kindCount, nI (vb R + E3.length), nI (R.length + 1), nI (nx (C s) p), -1, 0, -1, nI fu, x_firstWaiting, x_waitingCount, x_printCount, x_code, x_facts, x_partner, x_loaded, x_globals, x_memories, x_frameAt, x_frameHeight, x_frameResult, x_frameDead, x_kinds, x_values, x_variables, x_activeSlot, x_activeGives, x_activeFrame, x_activeResume, x_waiting, x_prints) V := by
      refine r_push (vb R + E3.length) (by omega) rfl ?_
      refine r_140 rfl ?_
      refine h _ (y_count, y_place, nI s, y_pos, y_wrong, y_constant, y_least, y_top, y_frames, y_invalid, nI (yb R + nv + E3.length + 1), nI (fb R + F.length), nI (R.length + 1), nI (120 - fu), 0, -1, y_result, y_used, y_waits, y_printed, y_bytes, y_there, y_types, y_typeSig, y_imports, y_functions, y_sig, y_what, y_typeAt, y_localsAt, y_globals, y_globalKind, y_globalFree, y_globalValue, y_entries, y_entriesAt, y_hasMemory, y_memory, y_nest, y_kinds, y_shape, y_gives, y_height, y_dead, vp_updL y_stack (yb R + nv + E3.length) V, y_labelAt, y_labelHeight, y_labelGives, y_callModule, y_callFunction, y_callBack, y_callBase, y_callLabels, y_waiting, y_prints) (nI (nx (C s) p)) (fin_c W hfu hR AO'.1 CR (xa_1 (X := [(x1, r)]) XA b4) AR (ya_1 (X := [(x1, r)]) YA) (mu_s AO'.2 (by omega))) (fun QQ hQ a w kk => ?_)
      show wpY_step QQ (y_count, y_place, nI s, a, w, kk, y_least, y_top, y_frames, y_invalid, nI (yb R + nv + E3.length + 1), nI (fb R + F.length), nI (R.length + 1), nI (120 - fu), 0, -1, y_result, y_used, y_waits, y_printed, y_bytes, y_there, y_types, y_typeSig, y_imports, y_functions, y_sig, y_what, y_typeAt, y_localsAt, y_globals, y_globalKind, y_globalFree, y_globalValue, y_entries, y_entriesAt, y_hasMemory, y_memory, y_nest, y_kinds, y_shape, y_gives, y_height, y_dead, y_stack, y_labelAt, y_labelHeight, y_labelGives, y_callModule, y_callFunction, y_callBack, y_callBase, y_callLabels, y_waiting, y_prints) (nI p)
      refine y_dat Q hpn h66 hRd (by omega) (fun k' xx hx hk => ?_)
      have hxx := hx (by omega)
      subst hxx
      refine yd_acc (C s p) hop (by omega) hR rfl YA.2.2.2.2.2.1 rfl (y_b34 hop (by omega) ?_)
      refine pk_lt (C s p) 25 (fun _ => br_t rfl ?_) (fun z => absurd z (by omega))
      refine y_b64 (i := yb R + nv + E3.length) (m := s) (r := r) hxc (by omega) hs rfl rfl (by omega) r0 rfl (fun _ => ⟨ln (C s p) + 1, ?_⟩) (fun z => absurd (by rw [← hA]; exact q) z)
      rw [← hA]
      refine y_ld (b := fun j => b (A + j)) (v := 0) (i0 := yb R + nv + E3.length) l2 (by omega) (fun j hj => ?_) rfl (by omega) ?_ (ln (C s p)) 0 _ 0 (by omega) (by omega) rfl
      · have := hb (A + j) (by omega)
        rw [show 48 * s + A + j = 48 * s + (A + j) by omega]
        exact ⟨this.2.2, this.1⟩
      · rw [← hV4]
        exact hQ _ _ _
    refine ⟨fun z => ?_, fun z => ?_⟩
    · rw [if_pos z, ← hacc] at hV
      rw [← hV]; exact fin
    · rw [if_neg z, ← hacc] at hV
      rw [← hV]; exact fin
  · refine br_f (fun y => q ((lLe hA40 (by omega)).mp y)) ?_
    refine r_140t 4 (by omega) rfl ?_
    refine h _ (y_count, y_place, nI s, y_pos, y_wrong, y_constant, y_least, y_top, y_frames, y_invalid, nI (yb R + nv + E3.length + 1), nI (fb R + F.length), nI (R.length + 1), nI (120 - fu), nI 4, 1000 * nI s + nI p, y_result, y_used, y_waits, y_printed, y_bytes, y_there, y_types, y_typeSig, y_imports, y_functions, y_sig, y_what, y_typeAt, y_localsAt, y_globals, y_globalKind, y_globalFree, y_globalValue, y_entries, y_entriesAt, y_hasMemory, y_memory, y_nest, y_kinds, y_shape, y_gives, y_height, y_dead, y_stack, y_labelAt, y_labelHeight, y_labelGives, y_callModule, y_callFunction, y_callBack, y_callBase, y_callLabels, y_waiting, y_prints) (nI (nx (C s) p)) (fin_t (t := 4) W hfu hR eS hs hp (by omega) (by omega)) (fun QQ hQ a w kk => ?_)
    show wpY_step QQ (y_count, y_place, nI s, a, w, kk, y_least, y_top, y_frames, y_invalid, nI (yb R + nv + E3.length + 1), nI (fb R + F.length), nI (R.length + 1), nI (120 - fu), 0, -1, y_result, y_used, y_waits, y_printed, y_bytes, y_there, y_types, y_typeSig, y_imports, y_functions, y_sig, y_what, y_typeAt, y_localsAt, y_globals, y_globalKind, y_globalFree, y_globalValue, y_entries, y_entriesAt, y_hasMemory, y_memory, y_nest, y_kinds, y_shape, y_gives, y_height, y_dead, y_stack, y_labelAt, y_labelHeight, y_labelGives, y_callModule, y_callFunction, y_callBack, y_callBase, y_callLabels, y_waiting, y_prints) (nI p)
    refine y_dat Q hpn h66 hRd (by omega) (fun k' xx hx hk => ?_)
    have hxx := hx (by omega)
    subst hxx
    refine yd_acc (C s p) hop (by omega) hR rfl YA.2.2.2.2.2.1 rfl (y_b34 hop (by omega) ?_)
    refine pk_lt (C s p) 25 (fun _ => br_t rfl ?_) (fun z => absurd z (by omega))
    exact y_b64 (i := yb R + nv + E3.length) (m := s) (r := r) hxc (by omega) hs rfl rfl (by omega) r0 rfl (fun z => absurd (by rw [hA]; exact z) q) (fun _ => hQ _ _ _)
end
