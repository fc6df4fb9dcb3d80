section
variable {x_byteCount x_wrongPlace x_at x_frameCount x_kindCount x_valueCount x_activeCount x_goesOn x_outcome x_trapPlace x_fuelUsed x_firstWaiting x_waitingCount x_printCount : Int32} {x_resultValue : Int64} {x_code x_facts x_partner x_loaded x_memories x_frameAt x_frameHeight x_frameResult x_frameDead x_kinds x_activeSlot x_activeGives x_activeFrame x_activeResume x_waiting x_prints : Nat → Int32} {x_globals x_values x_variables : Nat → Int64}
variable {y_count y_place y_m y_pos y_wrong y_least y_top y_frames y_invalid y_sp y_labels y_active y_fuel y_outcome y_trappedAt y_used y_waits y_printed : Int32} {y_constant y_result : Int64} {y_bytes y_there y_types y_typeSig y_imports y_functions y_sig y_what y_typeAt y_localsAt y_globals y_globalKind y_globalFree y_entries y_entriesAt y_hasMemory y_memory y_nest y_kinds y_shape y_gives y_height y_dead y_labelAt y_labelHeight y_labelGives y_callModule y_callFunction y_callBack y_callBase y_callLabels y_waiting y_prints : Nat → Int32} {y_globalValue y_stack : Nat → Int64}
variable {B : Nat → Bool} {C : Nat → Nat → Nat} {N : Nat → Nat} {PP : Nat → Nat → Nat} {n : Nat} {cd : Nat → Nat} {g0 fu s f nv g p : Nat} {E : List ev} {L : Nat → Int64} {F : List vt_Fr} {R : List ac}
variable {post : SX → Prop}
theorem brn {X E0 : List ev} {P : SX → Prop} {go : Int32} {d : Nat} (W : wo_ok B C N PP n cd x_byteCount x_wrongPlace x_firstWaiting x_waitingCount x_printCount x_code x_facts x_partner x_loaded x_globals x_memories x_waiting x_prints y_count y_place y_waits y_printed y_bytes y_there y_types y_typeSig y_imports y_functions y_sig y_what y_localsAt y_globals y_globalValue y_entries y_entriesAt y_hasMemory y_memory y_waiting y_prints) (hfu : fu ≤ 120) (hR : R.length < 10) (AO : a_ok B C N PP 0 s f nv g p E L F) (CR : ch_ok B C N PP g0 g R) (XA : xa_ok x_frameAt x_frameHeight x_values x_variables x_activeSlot x_activeGives x_activeFrame ((s, f, nv, g, p, E, L, F) :: R)) (AR : ar_ok x_activeResume R) (YA : ya_ok y_stack y_labelAt y_labelHeight y_labelGives y_callModule y_callFunction y_callBack y_callBase y_callLabels ((s, f, nv, g, p, E, L, F) :: R)) (eE : E = X ++ E0) (hb : bv d E0 F) (hh0 : f_h F ≤ E0.length) (hP : ∀ u, wX_step_140 post (gx_byteCount u) (gx_wrongPlace u) (gx_at u) (gx_frameCount u) (gx_kindCount u) (gx_valueCount u) (gx_activeCount u) (gx_goesOn u) (gx_outcome u) (gx_resultValue u) (gx_trapPlace u) (gx_fuelUsed u) (gx_firstWaiting u) (gx_waitingCount u) (gx_printCount u) (gx_code u) (gx_facts u) (gx_partner u) (gx_loaded u) (gx_globals u) (gx_memories u) (gx_frameAt u) (gx_frameHeight u) (gx_frameResult u) (gx_frameDead u) (gx_kinds u) (gx_values u) (gx_variables u) (gx_activeSlot u) (gx_activeGives u) (gx_activeFrame u) (gx_activeResume u) (gx_waiting u) (gx_prints u) → P u)
    (hY : ∀ v' q, (∀ QQ : Int32 → SY → Prop, (∀ a w k, QQ q (sy3 v' a w k)) → ∀ a w k, wpY_branch QQ (y_count, y_place, nI s, a, w, k, y_least, y_top, y_frames, y_invalid, nI (yb R + nv + E0.length), nI (fb R + F.length), nI (R.length + 1), nI (120 - fu), 0, -1, y_result, y_used, y_waits, y_printed, y_bytes, y_there, y_types, y_typeSig, y_imports, y_functions, y_sig, y_what, y_typeAt, y_localsAt, y_globals, y_globalKind, y_globalFree, y_globalValue, y_entries, y_entriesAt, y_hasMemory, y_memory, y_nest, y_kinds, y_shape, y_gives, y_height, y_dead, y_stack, y_labelAt, y_labelHeight, y_labelGives, y_callModule, y_callFunction, y_callBack, y_callBase, y_callLabels, y_waiting, y_prints) (nI d) (nI p)) → ystep (y_count, y_place, nI s, y_pos, y_wrong, y_constant, y_least, y_top, y_frames, y_invalid, nI (yb R + nv + E.length), nI (fb R + F.length), nI (R.length + 1), nI (120 - fu), 0, -1, y_result, y_used, y_waits, y_printed, y_bytes, y_there, y_types, y_typeSig, y_imports, y_functions, y_sig, y_what, y_typeAt, y_localsAt, y_globals, y_globalKind, y_globalFree, y_globalValue, y_entries, y_entriesAt, y_hasMemory, y_memory, y_nest, y_kinds, y_shape, y_gives, y_height, y_dead, y_stack, y_labelAt, y_labelHeight, y_labelGives, y_callModule, y_callFunction, y_callBack, y_callBase, y_callLabels, y_waiting, y_prints) v' (nI p) q) (h : ∀ u' v' q, nxt B C N PP n cd g0 (mu ((s, f, nv, g, p, E, L, F) :: R) fu) u' v' q → ystep (y_count, y_place, nI s, y_pos, y_wrong, y_constant, y_least, y_top, y_frames, y_invalid, nI (yb R + nv + E.length), nI (fb R + F.length), nI (R.length + 1), nI (120 - fu), 0, -1, y_result, y_used, y_waits, y_printed, y_bytes, y_there, y_types, y_typeSig, y_imports, y_functions, y_sig, y_what, y_typeAt, y_localsAt, y_globals, y_globalKind, y_globalFree, y_globalValue, y_entries, y_entriesAt, y_hasMemory, y_memory, y_nest, y_kinds, y_shape, y_gives, y_height, y_dead, y_stack, y_labelAt, y_labelHeight, y_labelGives, y_callModule, y_callFunction, y_callBack, y_callBase, y_callLabels, y_waiting, y_prints) v' (nI p) q → post u') : wpX_branch P (x_byteCount, x_wrongPlace, nI p, nI (fb R + F.length), x_kindCount, nI (vb R + E0.length), nI (R.length + 1), go, -1, 0, -1, nI fu, x_firstWaiting, x_waitingCount, x_printCount, x_code, x_facts, x_partner, x_loaded, x_globals, x_memories, x_frameAt, x_frameHeight, x_frameResult, x_frameDead, x_kinds, x_values, x_variables, x_activeSlot, x_activeGives, x_activeFrame, x_activeResume, x_waiting, x_prints) (nI s) (nI d) := by
  obtain ⟨sm, mp, hN, M, Q, ⟨k, wkk⟩, eS, b1, b2, b3, b4, hs, hpn, h66, hRd, htv, hE20, hh, hd, hnv, hp⟩ := op_f W hfu hR AO CR XA AR YA
  obtain ⟨ok, okn⟩ := wk_s wkk
  obtain ⟨hd1, hb2⟩ := hb
  have hF := AO.2.2.2.2.2.2.2.2.1
  have hF8 := AO.2.2.2.2.2.2.2.2.2.1
  have hfo := AO.2.2.2.2.2.2.2.2.2.2.1
  have hfb := AO.2.2.2.2.2.2.2.2.2.2.2.1
  have hl0 : (F.drop d).length = F.length - d := List.length_drop ..
  have hl1 : (F.drop (d + 1)).length = F.length - (d + 1) := List.length_drop ..
  obtain ⟨a1, a2, a3, a4, a5, a6⟩ := fo_at hfo hd1
  obtain ⟨x1, x2⟩ := xfr_at (xfr_drop F d XA.2.2.1) (drop_ne hd1)
  obtain ⟨z1, z2, z3⟩ := yfr_at (yfr_drop F d YA.2.2.1) (drop_ne hd1)
  rw [hl0] at x1 x2 z1 z2 z3
  rw [drop_tl] at z1
  have ix : fb R + (F.length - d - 1) = fb R + (F.length - d) - 1 := by omega
  have iy : fb R + (F.length - d - 1) = fb R + F.length - 1 - d := by omega
  have eL : (nI (fb R + F.length) : Int32) = nI (fb R + F.length - 1 + 1) := by congr 1; omega
  have W11 := W.2.2.2.2.2.2.2.2.2.2.1 s hs AO.2.1
  have hPt := W11.2.1.2.2
  by_cases hdl : d + 1 = F.length
  · have ht : F.drop (d + 1) = [] := by
      apply List.length_eq_zero_iff.mp; omega
    have hg : f_g (F.drop d) = g := by rw [← fb_one (drop_ne hd1) (by rw [drop_tl]; exact ht), fb_drop F d (drop_ne hd1)]; exact hfb
    rw [if_neg (by rw [(a4 hdl).1]; decide), hg] at hb2
    refine r_br_l (a := R.length) (b := fb R) (l := F.length) hR rfl XA.2.2.2.2.2.1 rfl (by omega) hdl ?_
    refine lv (X := X) (E0 := E0) W hfu hR AO CR XA AR YA eE hb2 hh0 (fun u hu => hP u hu) (fun v' q hq => hY v' q (fun QQ hQ a w k => ?_)) h
    refine y_br_l (l := fb R + F.length - 1) eL (by omega) (by omega) ?_ (hq _ hQ a w k)
    rw [← iy, z1, if_pos ht]
  · have hd' : d + 1 < F.length := by omega
    have ht : F.drop (d + 1) ≠ [] := drop_ne hd'
    rw [if_neg ht] at z1
    rw [ix] at x1 x2
    rw [iy] at z1 z2 z3
    subst eE
    rw [List.length_append] at hE20
    obtain ⟨c1, c2, c3, c4, c5, c6, c7, c8⟩ := a6 hd'
    by_cases h3 : f_c (F.drop d) = 3
    · obtain ⟨l1, l2, l3, AO'⟩ := a_lp AO hN hh0 hd' h3
      have ell : (le_ (f_h (F.drop d)) E0).length = f_h (F.drop d) := le_len l1
      refine r_br_3 (a := R.length) (b := fb R) (l := F.length) (o := f_o (F.drop d)) (hh := vb R + (le_ (f_h (F.drop d)) E0).length) (fu := fu) hs M hR rfl XA.2.2.2.2.2.1 rfl (by omega) hd' x1 (by omega) l2 (by rw [ell]; exact x2) hfu rfl (fun z => ?_) (fun z => ?_)
      · rw [← hl0]
        refine hP _ (r_140 rfl ?_)
        refine h _ (y_count, y_place, nI s, y_pos, y_wrong, y_constant, y_least, y_top, y_frames, y_invalid, nI (yb R + nv + (le_ (f_h (F.drop d)) E0).length), nI (fb R + (F.drop d).length), nI (R.length + 1), nI (120 - (fu + 1)), 0, -1, y_result, y_used, y_waits, y_printed, y_bytes, y_there, y_types, y_typeSig, y_imports, y_functions, y_sig, y_what, y_typeAt, y_localsAt, y_globals, y_globalKind, y_globalFree, y_globalValue, y_entries, y_entriesAt, y_hasMemory, y_memory, y_nest, y_kinds, y_shape, y_gives, y_height, y_dead, y_stack, y_labelAt, y_labelHeight, y_labelGives, y_callModule, y_callFunction, y_callBack, y_callBase, y_callLabels, y_waiting, y_prints) (nI (f_o (F.drop d) + 2)) (fin_c (fu := fu + 1) W (by omega) hR AO' CR (xa_F (j := E0.length - f_h (F.drop d)) (d := d) XA) AR (ya_F (j := E0.length - f_h (F.drop d)) (d := d) YA) (by simp only [mu, msum]; omega)) (hY _ _ (fun QQ hQ a w k => ?_))
        refine y_br_3 (m := s) (l := fb R + F.length - 1) (o := f_o (F.drop d)) (hh := yb R + nv + (le_ (f_h (F.drop d)) E0).length) (fu := fu) Q eL (by omega) (by omega) z1 (by omega) l2 (by rw [ell]; exact z2) hfu rfl rfl (fun _ => ?_) (fun y => absurd z (by omega))
        rw [show fb R + F.length - 1 - d + 1 = fb R + (F.drop d).length by omega]
        exact hQ _ _ _
      · refine hP _ (r_140t 9 (by omega) rfl ?_)
        refine h _ (y_count, y_place, nI s, y_pos, y_wrong, y_constant, y_least, y_top, y_frames, y_invalid, nI (yb R + nv + E0.length), nI (fb R + F.length), nI (R.length + 1), nI (120 - fu), nI 9, 1000 * nI s + nI p, y_result, y_used, y_waits, y_printed, y_bytes, y_there, y_types, y_typeSig, y_imports, y_functions, y_sig, y_what, y_typeAt, y_localsAt, y_globals, y_globalKind, y_globalFree, y_globalValue, y_entries, y_entriesAt, y_hasMemory, y_memory, y_nest, y_kinds, y_shape, y_gives, y_height, y_dead, y_stack, y_labelAt, y_labelHeight, y_labelGives, y_callModule, y_callFunction, y_callBack, y_callBase, y_callLabels, y_waiting, y_prints) (nI p) (fin_t (t := 9) W hfu hR eS hs hp (by omega) (by omega)) (hY _ _ (fun QQ hQ a w k => ?_))
        exact y_br_3 (m := s) (l := fb R + F.length - 1) (o := f_o (F.drop d)) (hh := yb R + nv + (le_ (f_h (F.drop d)) E0).length) (fu := fu) Q eL (by omega) (by omega) z1 (by omega) l2 (by rw [ell]; exact z2) hfu rfl rfl (fun y => absurd z (by omega)) (fun _ => hQ _ _ _)
    · rw [if_neg h3] at hb2 z3
      obtain ⟨v, E1, e1, e2, e3, e4, e5, e6⟩ := pr_e hb2 hd (tv_app X E0 htv) hh0
      have hn5 : C s (f_o (F.drop d)) ≠ 3 := by rw [c3]; split <;> omega
      obtain ⟨e, b1', b2', b3', b4', b5', b6', b7', ⟨j, b8'⟩, ⟨q, b9', b10', b11', b12'⟩, AO'⟩ := a_br (v := v) AO hN hh0 hd' e3
      have ell : (le_ (f_h (F.drop d)) E0).length = f_h (F.drop d) := le_len b3'
      have hle : f_h (F.drop d) ≤ 20 := by omega
      have hE1 : E1.length ≤ E0.length := by rw [e1, pu_len]; omega
      have hxe := el_app X E0 XA.1
      have hye := el_app X E0 YA.1
      have eVx : f_g (F.drop d) ≠ 0 → (nI (vb R + E0.length) : Int32) = nI (vb R + E1.length + 1) ∧ x_values (vb R + E1.length) = v := by
        intro z
        rw [pu_n z] at e1
        subst e1
        exact ⟨rfl, hxe.1⟩
      have eVy : f_g (F.drop d) ≠ 0 → (nI (yb R + nv + E0.length) : Int32) = nI (yb R + nv + E1.length + 1) ∧ y_stack (yb R + nv + E1.length) = v := by
        intro z
        rw [pu_n z] at e1
        subst e1
        exact ⟨rfl, hye.1⟩
      have hmu : ∀ E' : List ev, mu ((s, f, nv, g, e + 1, E', L, F.drop (d + 1)) :: R) fu < mu ((s, f, nv, g, p, X ++ E0, L, F) :: R) fu := fun E' => mu_s (by omega) (by omega)
      refine r_br_b (a := R.length) (b := fb R) (l := F.length) (o := f_o (F.drop d)) (e := e) (e1 := q) (gd := f_g (F.drop d)) (hh := vb R + (le_ (f_h (F.drop d)) E0).length) (i := vb R + E1.length) (v := v) (P := PP s) hs M hPt hR rfl XA.2.2.2.2.2.1 rfl (by omega) hd' x1 (by omega) hn5 (by rw [ell]; exact x2) (by omega) b5' (by omega) eVx b9' b10' b11' b12' (fun z => ?_) (fun z => ?_)
      · rw [z, pu_0] at AO'
        rw [show fb R + (F.length - d) - 1 = fb R + (F.drop (d + 1)).length by omega]
        refine hP _ (r_140 rfl ?_)
        refine h _ (y_count, y_place, nI s, y_pos, y_wrong, y_constant, y_least, y_top, y_frames, y_invalid, nI (yb R + nv + (le_ (f_h (F.drop d)) E0).length), nI (fb R + (F.drop (d + 1)).length), nI (R.length + 1), nI (120 - fu), 0, -1, y_result, y_used, y_waits, y_printed, y_bytes, y_there, y_types, y_typeSig, y_imports, y_functions, y_sig, y_what, y_typeAt, y_localsAt, y_globals, y_globalKind, y_globalFree, y_globalValue, y_entries, y_entriesAt, y_hasMemory, y_memory, y_nest, y_kinds, y_shape, y_gives, y_height, y_dead, y_stack, y_labelAt, y_labelHeight, y_labelGives, y_callModule, y_callFunction, y_callBack, y_callBase, y_callLabels, y_waiting, y_prints) (nI (e + 1)) (fin_c W hfu hR AO' CR (xa_F (j := E0.length - f_h (F.drop d)) (d := d + 1) XA) AR (ya_F (j := E0.length - f_h (F.drop d)) (d := d + 1) YA) (hmu _)) (hY _ _ (fun QQ hQ a w k => ?_))
        refine y_br_b (m := s) (l := fb R + F.length - 1) (o := f_o (F.drop d)) (e := e) (hh := yb R + nv + (le_ (f_h (F.drop d)) E0).length) (gd := f_g (F.drop d)) (i := yb R + nv + E1.length) (v := v) Q eL (by omega) (by omega) z1 (by omega) hn5 (by rw [ell]; exact z2) (by omega) z3 a3 b8' (by omega) eVy (fun _ a w k => ?_) (fun y => absurd z y)
        rw [show fb R + F.length - 1 - d = fb R + (F.drop (d + 1)).length by omega]
        exact hQ _ _ _
      · rw [pu_n z] at AO'
        rw [show fb R + (F.length - d) - 1 = fb R + (F.drop (d + 1)).length by omega]
        refine hP _ (r_140 rfl ?_)
        refine h _ (y_count, y_place, nI s, y_pos, y_wrong, y_constant, y_least, y_top, y_frames, y_invalid, nI (yb R + nv + (le_ (f_h (F.drop d)) E0).length + 1), nI (fb R + (F.drop (d + 1)).length), nI (R.length + 1), nI (120 - fu), 0, -1, y_result, y_used, y_waits, y_printed, y_bytes, y_there, y_types, y_typeSig, y_imports, y_functions, y_sig, y_what, y_typeAt, y_localsAt, y_globals, y_globalKind, y_globalFree, y_globalValue, y_entries, y_entriesAt, y_hasMemory, y_memory, y_nest, y_kinds, y_shape, y_gives, y_height, y_dead, vp_updL y_stack (yb R + nv + (le_ (f_h (F.drop d)) E0).length) v, y_labelAt, y_labelHeight, y_labelGives, y_callModule, y_callFunction, y_callBack, y_callBase, y_callLabels, y_waiting, y_prints) (nI (e + 1)) (fin_c W hfu hR AO' CR (xa_1 (p := p) (X := []) (xa_F (j := E0.length - f_h (F.drop d)) (d := d + 1) XA) b4) AR (ya_1 (p := p) (X := []) (ya_F (j := E0.length - f_h (F.drop d)) (d := d + 1) YA)) (hmu _)) (hY _ _ (fun QQ hQ a w k => ?_))
        refine y_br_b (m := s) (l := fb R + F.length - 1) (o := f_o (F.drop d)) (e := e) (hh := yb R + nv + (le_ (f_h (F.drop d)) E0).length) (gd := f_g (F.drop d)) (i := yb R + nv + E1.length) (v := v) Q eL (by omega) (by omega) z1 (by omega) hn5 (by rw [ell]; exact z2) (by omega) z3 a3 b8' (by omega) eVy (fun y => absurd y z) (fun _ a w k => ?_)
        rw [show fb R + F.length - 1 - d = fb R + (F.drop (d + 1)).length by omega]
        exact hQ _ _ _
end
