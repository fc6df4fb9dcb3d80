section
variable {x_byteCount x_wrongPlace x_at x_frameCount x_kindCount x_valueCount x_activeCount x_goesOn x_outcome x_trapPlace x_fuelUsed x_firstWaiting x_waitingCount x_printCount : Int32} {x_resultValue : Int64} {x_code x_facts x_partner x_loaded x_memories x_frameAt x_frameHeight x_frameResult x_frameDead x_kinds x_activeSlot x_activeGives x_activeFrame x_activeResume x_waiting x_prints : Nat → Int32} {x_globals x_values x_variables : Nat → Int64}
variable {y_count y_place y_m y_pos y_wrong y_least y_top y_frames y_invalid y_sp y_labels y_active y_fuel y_outcome y_trappedAt y_used y_waits y_printed : Int32} {y_constant y_result : Int64} {y_bytes y_there y_types y_typeSig y_imports y_functions y_sig y_what y_typeAt y_localsAt y_globals y_globalKind y_globalFree y_entries y_entriesAt y_hasMemory y_memory y_nest y_kinds y_shape y_gives y_height y_dead y_labelAt y_labelHeight y_labelGives y_callModule y_callFunction y_callBack y_callBase y_callLabels y_waiting y_prints : Nat → Int32} {y_globalValue y_stack : Nat → Int64}
variable {B : Nat → Bool} {C : Nat → Nat → Nat} {N : Nat → Nat} {PP : Nat → Nat → Nat} {n : Nat} {cd : Nat → Nat} {g0 fu s f nv g p : Nat} {E : List ev} {L : Nat → Int64} {F : List vt_Fr} {R : List ac}
variable {post : SX → Prop}
theorem op_st (W : wo_ok B C N PP n cd x_byteCount x_wrongPlace x_firstWaiting x_waitingCount x_printCount x_code x_facts x_partner x_loaded x_globals x_memories x_waiting x_prints y_count y_place y_waits y_printed y_bytes y_there y_types y_typeSig y_imports y_functions y_sig y_what y_localsAt y_globals y_globalValue y_entries y_entriesAt y_hasMemory y_memory y_waiting y_prints) (hfu : fu ≤ 120) (hR : R.length < 10) (AO : a_ok B C N PP 0 s f nv g p E L F) (CR : ch_ok B C N PP g0 g R) (XA : xa_ok x_frameAt x_frameHeight x_values x_variables x_activeSlot x_activeGives x_activeFrame ((s, f, nv, g, p, E, L, F) :: R)) (AR : ar_ok x_activeResume R) (YA : ya_ok y_stack y_labelAt y_labelHeight y_labelGives y_callModule y_callFunction y_callBack y_callBase y_callLabels ((s, f, nv, g, p, E, L, F) :: R)) (hop : 25 ≤ C s p) (hop2 : C s p ≤ 27) (h : ∀ u' v' q, nxt B C N PP n cd g0 (mu ((s, f, nv, g, p, E, L, F) :: R) fu) u' v' q → ystep (y_count, y_place, nI s, y_pos, y_wrong, y_constant, y_least, y_top, y_frames, y_invalid, nI (yb R + nv + E.length), nI (fb R + F.length), nI (R.length + 1), nI (120 - fu), 0, -1, y_result, y_used, y_waits, y_printed, y_bytes, y_there, y_types, y_typeSig, y_imports, y_functions, y_sig, y_what, y_typeAt, y_localsAt, y_globals, y_globalKind, y_globalFree, y_globalValue, y_entries, y_entriesAt, y_hasMemory, y_memory, y_nest, y_kinds, y_shape, y_gives, y_height, y_dead, y_stack, y_labelAt, y_labelHeight, y_labelGives, y_callModule, y_callFunction, y_callBack, y_callBase, y_callLabels, y_waiting, y_prints) v' (nI p) q → post u') : wpX_step post (x_byteCount, x_wrongPlace, nI p, nI (fb R + F.length), x_kindCount, nI (vb R + E.length), nI (R.length + 1), x_goesOn, -1, 0, -1, nI fu, x_firstWaiting, x_waitingCount, x_printCount, x_code, x_facts, x_partner, x_loaded, x_globals, x_memories, x_frameAt, x_frameHeight, x_frameResult, x_frameDead, x_kinds, x_values, x_variables, x_activeSlot, x_activeGives, x_activeFrame, x_activeResume, x_waiting, x_prints) := by
  obtain ⟨sm, mp, hN, M, Q, ⟨k, wkk⟩, eS, b1, b2, b3, b4, hs, hpn, h66, hRd, htv, hE20, hh, hd, hnv, hp⟩ := op_f W hfu hR AO CR XA AR YA
  obtain ⟨ok, okn⟩ := wk_s wkk
  have hn2 := (wk_n wkk).2.2.1
  have enx : nx (C s) p = p + 2 := nx_2 (by omega)
  have hv := v_mem (n := N s) (f := f) (S := (ek E, F, false)) (c := C s) (p := p) (by omega) (by omega)
  unfold vt_mem at hv
  rw [if_neg (by omega), if_neg (by omega)] at hv
  rw [hv] at ok
  have o1 := bf_pl ok
  have o2 := bf_bad (bf_pl o1)
  rw [o2.2, vb_f] at ok hv o1
  obtain ⟨x1, v, E2, rfl, hh2, hx1, e1, _, ht1, htv2, _⟩ := pe o1 hd htv hh
  rw [e1] at ok hv
  obtain ⟨x2, r, E3, rfl, hh3, hx2, e2, _, ht2, htv3, _⟩ := pe ok hd htv2 hh2
  rw [e2] at hv
  simp only [List.length_cons] at hE20
  obtain ⟨q0, q1, q2⟩ := XA.1
  obtain ⟨r0, r1, r2⟩ := YA.1
  obtain ⟨l1, l2⟩ := ln_le (C s p)
  have hxc : C s (p + 1) < 256 := M.2.1 _
  obtain ⟨A, hA⟩ : ∃ A, A = uN r % 4294967296 + C s (p + 1) := ⟨_, rfl⟩
  have hA40 : A < 2 ^ 40 := by omega
  have es : (nI (yb R + nv + E3.length + 2) : Int32) - 1 = nI (yb R + nv + E3.length + 1) := nI_p (yb R + nv + E3.length + 2) (by omega)
  refine r_access hs M hp hR rfl eS rfl (by omega) (by omega) ?_
  refine pk_lt (C s p) 25 (fun z => absurd z (by omega)) (fun _ => br_f (by decide) ?_)
  refine r_popv (vb R + E3.length + 1) v (by omega) rfl q0 ?_
  refine x_a26 (i := vb R + E3.length) (by omega) hxc rfl (by omega) q1 ?_
  rw [← hA]
  by_cases q : A + ln (C s p) ≤ 48
  · have AO' := a_nx (X := [(x1, v), (x2, r)]) (X' := []) (E0 := E3) AO hN hh3 hv htv3 (by show E3.length ≤ 20; omega) AO.2.2.2.2.2.2.2.2.2.2.2.2.2.1
    refine br_t ((lLe hA40 (by omega)).mpr q) (nm_r (show _ = nI (s * 48 + A) from ?_) (br_f (by decide) ⟨ln (C s p) + 1, ?_⟩))
    · rw [lN_i, show (48 : Int32) = nI 48 from rfl, pk_mul, nI_add]
    refine x_st (v := v) l2 (by omega) (fun XM m1 m2 => ?_) (ln (C s p)) 0 _ _ (by omega) (by omega) (fun j hj => absurd hj (by omega)) (fun j _ => rfl)
    obtain ⟨YM, hYM⟩ : ∃ YM : Nat → Int32, YM = fun j => if 48 * s + A ≤ j ∧ j < 48 * s + A + ln (C s p) then sb_v (wbt v (j - (48 * s + A))) else y_memory j := ⟨_, rfl⟩
    have y1 : ∀ j, j < ln (C s p) → YM (48 * s + A + j) = sb_v (wbt v j) := by
      intro j hj
      rw [hYM]
      dsimp only
      rw [if_pos (by omega), show 48 * s + A + j - (48 * s + A) = j by omega]
    have y2 : ∀ j, ¬ (48 * s + A ≤ j ∧ j < 48 * s + A + ln (C s p)) → YM j = y_memory j := by
      intro j hj
      rw [hYM]
      dsimp only
      rw [if_neg hj]
    have W' := wo_m (XM := XM) (YM := YM) (b := wbt v) W hs q (wbt_lt v) m1 m2 y1 y2
    refine r_140 rfl ?_
    refine h _ (y_count, y_place, nI s, y_pos, y_wrong, y_constant, y_least, y_top, y_frames, y_invalid, nI (yb R + nv + E3.length), nI (fb R + F.length), nI (R.length + 1), nI (120 - fu), 0, -1, y_result, y_used, y_waits, y_printed, y_bytes, y_there, y_types, y_typeSig, y_imports, y_functions, y_sig, y_what, y_typeAt, y_localsAt, y_globals, y_globalKind, y_globalFree, y_globalValue, y_entries, y_entriesAt, y_hasMemory, YM, y_nest, y_kinds, y_shape, y_gives, y_height, y_dead, y_stack, y_labelAt, y_labelHeight, y_labelGives, y_callModule, y_callFunction, y_callBack, y_callBase, y_callLabels, y_waiting, y_prints) (nI (nx (C s) p)) (fin_c W' hfu hR AO'.1 CR (xa_0 (X := [(x1, v), (x2, r)]) XA) AR (ya_0 (X := [(x1, v), (x2, r)]) YA) (mu_s AO'.2 (by omega))) (fun QQ hQ a w kk => ?_)
    show wpY_step QQ (y_count, y_place, nI s, a, w, kk, y_least, y_top, y_frames, y_invalid, nI (yb R + nv + E3.length + 2), nI (fb R + F.length), nI (R.length + 1), nI (120 - fu), 0, -1, y_result, y_used, y_waits, y_printed, y_bytes, y_there, y_types, y_typeSig, y_imports, y_functions, y_sig, y_what, y_typeAt, y_localsAt, y_globals, y_globalKind, y_globalFree, y_globalValue, y_entries, y_entriesAt, y_hasMemory, y_memory, y_nest, y_kinds, y_shape, y_gives, y_height, y_dead, y_stack, y_labelAt, y_labelHeight, y_labelGives, y_callModule, y_callFunction, y_callBack, y_callBase, y_callLabels, y_waiting, y_prints) (nI p)
    refine y_dat Q hpn h66 hRd (by omega) (fun k' xx hx hk => ?_)
    have hxx := hx (by omega)
    subst hxx
    refine yd_acc (C s p) (by omega) (by omega) hR rfl YA.2.2.2.2.2.1 rfl (y_b34 (by omega) (by omega) ?_)
    refine pk_lt (C s p) 25 (fun z => absurd z (by omega)) (fun _ => br_f (by decide) (nm_r es ?_))
    refine y_b64 (i := yb R + nv + E3.length) (m := s) (r := r) (v := v) hxc (by omega) hs rfl rfl (by omega) r1 r0 (fun _ => ⟨ln (C s p) + 1, ?_⟩) (fun z => absurd (by rw [← hA]; exact q) z)
    rw [← hA]
    refine y_st (v := v) (i0 := yb R + nv + E3.length) l2 (by omega) rfl (fun M' n1 n2 => ?_) (ln (C s p)) 0 _ _ (by omega) (by omega) (fun j hj => absurd hj (by omega)) (fun j _ => rfl)
    have eM : M' = YM := by
      funext j
      by_cases z : 48 * s + A ≤ j ∧ j < 48 * s + A + ln (C s p)
      · have a1 := n1 (j - (48 * s + A)) (by omega)
        have a2 := y1 (j - (48 * s + A)) (by omega)
        rw [show 48 * s + A + (j - (48 * s + A)) = j by omega] at a1 a2
        rw [a1, a2]
      · rw [n2 j z, y2 j z]
    rw [eM]
    exact hQ _ _ _
  · refine br_f (fun y => q ((lLe hA40 (by omega)).mp y)) ?_
    refine r_140t 4 (by omega) rfl ?_
    refine h _ (y_count, y_place, nI s, y_pos, y_wrong, y_constant, y_least, y_top, y_frames, y_invalid, nI (yb R + nv + E3.length + 1), nI (fb R + F.length), nI (R.length + 1), nI (120 - fu), nI 4, 1000 * nI s + nI p, y_result, y_used, y_waits, y_printed, y_bytes, y_there, y_types, y_typeSig, y_imports, y_functions, y_sig, y_what, y_typeAt, y_localsAt, y_globals, y_globalKind, y_globalFree, y_globalValue, y_entries, y_entriesAt, y_hasMemory, y_memory, y_nest, y_kinds, y_shape, y_gives, y_height, y_dead, y_stack, y_labelAt, y_labelHeight, y_labelGives, y_callModule, y_callFunction, y_callBack, y_callBase, y_callLabels, y_waiting, y_prints) (nI (nx (C s) p)) (fin_t (t := 4) W hfu hR eS hs hp (by omega) (by omega)) (fun QQ hQ a w kk => ?_)
    show wpY_step QQ (y_count, y_place, nI s, a, w, kk, y_least, y_top, y_frames, y_invalid, nI (yb R + nv + E3.length + 2), nI (fb R + F.length), nI (R.length + 1), nI (120 - fu), 0, -1, y_result, y_used, y_waits, y_printed, y_bytes, y_there, y_types, y_typeSig, y_imports, y_functions, y_sig, y_what, y_typeAt, y_localsAt, y_globals, y_globalKind, y_globalFree, y_globalValue, y_entries, y_entriesAt, y_hasMemory, y_memory, y_nest, y_kinds, y_shape, y_gives, y_height, y_dead, y_stack, y_labelAt, y_labelHeight, y_labelGives, y_callModule, y_callFunction, y_callBack, y_callBase, y_callLabels, y_waiting, y_prints) (nI p)
    refine y_dat Q hpn h66 hRd (by omega) (fun k' xx hx hk => ?_)
    have hxx := hx (by omega)
    subst hxx
    refine yd_acc (C s p) (by omega) (by omega) hR rfl YA.2.2.2.2.2.1 rfl (y_b34 (by omega) (by omega) ?_)
    refine pk_lt (C s p) 25 (fun z => absurd z (by omega)) (fun _ => br_f (by decide) (nm_r es ?_))
    exact y_b64 (i := yb R + nv + E3.length) (m := s) (r := r) (v := v) hxc (by omega) hs rfl rfl (by omega) r1 r0 (fun z => absurd (by rw [hA]; exact z) q) (fun _ => hQ _ _ _)
end
