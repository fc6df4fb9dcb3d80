section
variable {x_byteCount x_wrongPlace x_at x_frameCount x_kindCount x_valueCount x_activeCount x_goesOn x_outcome x_trapPlace x_fuelUsed x_firstWaiting x_waitingCount x_printCount : Int32} {x_resultValue : Int64} {x_code x_facts x_partner x_loaded x_memories x_frameAt x_frameHeight x_frameResult x_frameDead x_kinds x_activeSlot x_activeGives x_activeFrame x_activeResume x_waiting x_prints : Nat → Int32} {x_globals x_values x_variables : Nat → Int64}
variable {y_count y_place y_m y_pos y_wrong y_least y_top y_frames y_invalid y_sp y_labels y_active y_fuel y_outcome y_trappedAt y_used y_waits y_printed : Int32} {y_constant y_result : Int64} {y_bytes y_there y_types y_typeSig y_imports y_functions y_sig y_what y_typeAt y_localsAt y_globals y_globalKind y_globalFree y_entries y_entriesAt y_hasMemory y_memory y_nest y_kinds y_shape y_gives y_height y_dead y_labelAt y_labelHeight y_labelGives y_callModule y_callFunction y_callBack y_callBase y_callLabels y_waiting y_prints : Nat → Int32} {y_globalValue y_stack : Nat → Int64}
variable {B : Nat → Bool} {C : Nat → Nat → Nat} {N : Nat → Nat} {PP : Nat → Nat → Nat} {n : Nat} {cd : Nat → Nat} {g0 fu s f nv g p : Nat} {E : List ev} {L : Nat → Int64} {F : List vt_Fr} {R : List ac}
variable {post : SX → Prop}
theorem y_sg (W : wo_ok B C N PP n cd x_byteCount x_wrongPlace x_firstWaiting x_waitingCount x_printCount x_code x_facts x_partner x_loaded x_globals x_memories x_waiting x_prints y_count y_place y_waits y_printed y_bytes y_there y_types y_typeSig y_imports y_functions y_sig y_what y_localsAt y_globals y_globalValue y_entries y_entriesAt y_hasMemory y_memory y_waiting y_prints) (hs : s < 2) (hB : B s = true) (hf : f < m_I (C s) (N s) + m_F (C s) (N s)) : y_sig (7 * s + f) = nI (sg (C s) (m_ty (C s) (N s) (C s (m_fa (C s) (N s) f)))) ∧ sg (C s) (m_ty (C s) (N s) (C s (m_fa (C s) (N s) f))) < 1024 ∧ sg (C s) (m_ty (C s) (N s) (C s (m_fa (C s) (N s) f))) / 256 = rsf (C s) (N s) f ∧ f < 7 := by
  obtain ⟨w1, w2, w3, w4, w5, w6, w7, w8, w9, w10, w11, w12⟩ := W
  obtain ⟨s1, s2, s3, s4⟩ := w11 s hs hB
  have mp := (mp_of s1.2.1).1
  have t1 := sm_t s1 hf
  have e := s3.2.2.2.2.2.1 f hf
  rw [sg_i, if_pos (sm_ty s1 f hf)] at e
  have h3 := mp.2.2.1
  have h4 := mp.2.2.2.1
  exact ⟨e, sg_lt t1, (sg_np t1).2.1, by omega⟩
theorem lv {X E0 : List ev} {P : SX → Prop} {go : Int32} (W : wo_ok B C N PP n cd x_byteCount x_wrongPlace x_firstWaiting x_waitingCount x_printCount x_code x_facts x_partner x_loaded x_globals x_memories x_waiting x_prints y_count y_place y_waits y_printed y_bytes y_there y_types y_typeSig y_imports y_functions y_sig y_what y_localsAt y_globals y_globalValue y_entries y_entriesAt y_hasMemory y_memory y_waiting y_prints) (hfu : fu ≤ 120) (hR : R.length < 10) (AO : a_ok B C N PP 0 s f nv g p E L F) (CR : ch_ok B C N PP g0 g R) (XA : xa_ok x_frameAt x_frameHeight x_values x_variables x_activeSlot x_activeGives x_activeFrame ((s, f, nv, g, p, E, L, F) :: R)) (AR : ar_ok x_activeResume R) (YA : ya_ok y_stack y_labelAt y_labelHeight y_labelGives y_callModule y_callFunction y_callBack y_callBase y_callLabels ((s, f, nv, g, p, E, L, F) :: R)) (eE : E = X ++ E0) (hpr : (vt_pr g (ek E0, F, false)).2.2 = false) (hh0 : f_h F ≤ E0.length) (hP : ∀ u, wX_step_140 post (gx_byteCount u) (gx_wrongPlace u) (gx_at u) (gx_frameCount u) (gx_kindCount u) (gx_valueCount u) (gx_activeCount u) (gx_goesOn u) (gx_outcome u) (gx_resultValue u) (gx_trapPlace u) (gx_fuelUsed u) (gx_firstWaiting u) (gx_waitingCount u) (gx_printCount u) (gx_code u) (gx_facts u) (gx_partner u) (gx_loaded u) (gx_globals u) (gx_memories u) (gx_frameAt u) (gx_frameHeight u) (gx_frameResult u) (gx_frameDead u) (gx_kinds u) (gx_values u) (gx_variables u) (gx_activeSlot u) (gx_activeGives u) (gx_activeFrame u) (gx_activeResume u) (gx_waiting u) (gx_prints u) → P u)
    (hY : ∀ v' q, (∀ QQ : Int32 → SY → Prop, (∀ a w k, QQ q (sy3 v' a w k)) → ∀ a w k, wpY_leave QQ (y_count, y_place, nI s, a, w, k, y_least, y_top, y_frames, y_invalid, nI (yb R + nv + E0.length), nI (fb R + F.length), nI (R.length + 1), nI (120 - fu), 0, -1, y_result, y_used, y_waits, y_printed, y_bytes, y_there, y_types, y_typeSig, y_imports, y_functions, y_sig, y_what, y_typeAt, y_localsAt, y_globals, y_globalKind, y_globalFree, y_globalValue, y_entries, y_entriesAt, y_hasMemory, y_memory, y_nest, y_kinds, y_shape, y_gives, y_height, y_dead, y_stack, y_labelAt, y_labelHeight, y_labelGives, y_callModule, y_callFunction, y_callBack, y_callBase, y_callLabels, y_waiting, y_prints)) → ystep (y_count, y_place, nI s, y_pos, y_wrong, y_constant, y_least, y_top, y_frames, y_invalid, nI (yb R + nv + E.length), nI (fb R + F.length), nI (R.length + 1), nI (120 - fu), 0, -1, y_result, y_used, y_waits, y_printed, y_bytes, y_there, y_types, y_typeSig, y_imports, y_functions, y_sig, y_what, y_typeAt, y_localsAt, y_globals, y_globalKind, y_globalFree, y_globalValue, y_entries, y_entriesAt, y_hasMemory, y_memory, y_nest, y_kinds, y_shape, y_gives, y_height, y_dead, y_stack, y_labelAt, y_labelHeight, y_labelGives, y_callModule, y_callFunction, y_callBack, y_callBase, y_callLabels, y_waiting, y_prints) v' (nI p) q) (h : ∀ u' v' q, nxt B C N PP n cd g0 (mu ((s, f, nv, g, p, E, L, F) :: R) fu) u' v' q → ystep (y_count, y_place, nI s, y_pos, y_wrong, y_constant, y_least, y_top, y_frames, y_invalid, nI (yb R + nv + E.length), nI (fb R + F.length), nI (R.length + 1), nI (120 - fu), 0, -1, y_result, y_used, y_waits, y_printed, y_bytes, y_there, y_types, y_typeSig, y_imports, y_functions, y_sig, y_what, y_typeAt, y_localsAt, y_globals, y_globalKind, y_globalFree, y_globalValue, y_entries, y_entriesAt, y_hasMemory, y_memory, y_nest, y_kinds, y_shape, y_gives, y_height, y_dead, y_stack, y_labelAt, y_labelHeight, y_labelGives, y_callModule, y_callFunction, y_callBack, y_callBase, y_callLabels, y_waiting, y_prints) v' (nI p) q → post u') : wpX_leave P (x_byteCount, x_wrongPlace, nI p, nI (fb R + F.length), x_kindCount, nI (vb R + E0.length), nI (R.length + 1), go, -1, 0, -1, nI fu, x_firstWaiting, x_waitingCount, x_printCount, x_code, x_facts, x_partner, x_loaded, x_globals, x_memories, x_frameAt, x_frameHeight, x_frameResult, x_frameDead, x_kinds, x_values, x_variables, x_activeSlot, x_activeGives, x_activeFrame, x_activeResume, x_waiting, x_prints) := by
  obtain ⟨sm, mp, hN, M, Q, ⟨k, wkk⟩, eS, b1, b2, b3, b4, hs, hpn, h66, hRd, htv, hE20, hh, hd, hnv, hp⟩ := op_f W hfu hR AO CR XA AR YA
  obtain ⟨ok, okn⟩ := wk_s wkk
  subst eE
  rw [List.length_append] at hE20
  obtain ⟨v, E1, e1, e2, e3, e4, e5, e6⟩ := pr_e hpr hd (tv_app X E0 htv) hh0
  have hB := AO.2.1
  have hf := AO.2.2.2.1
  have hg2 := AO.2.2.2.2.2.1.2
  obtain ⟨y1, y2, y3, y4⟩ := y_sg W hs hB hf
  rw [← AO.2.2.2.2.2.1.1] at y3
  have hF := AO.2.2.2.2.2.2.2.2.1
  have hfo := AO.2.2.2.2.2.2.2.2.2.2.1
  have hlen := List.length_pos_iff.mpr hF
  have hbot : x_frameHeight (fb R) = nI (vb R) := xfr_bot F hF XA.2.2.1 ((fo_at hfo (show F.length - 1 < F.length by omega)).2.2.2.1 (by omega)).2
  have hxe := el_app X E0 XA.1
  have hye := el_app X E0 YA.1
  have eVx : g ≠ 0 → (nI (vb R + E0.length) : Int32) = nI (vb R + E1.length + 1) ∧ x_values (vb R + E1.length) = v := by
    intro z
    rw [pu_n z] at e1
    subst e1
    exact ⟨rfl, hxe.1⟩
  have eVy : g ≠ 0 → (nI (yb R + nv + E0.length) : Int32) = nI (yb R + nv + E1.length + 1) ∧ y_stack (yb R + nv + E1.length) = v := by
    intro z
    rw [pu_n z] at e1
    subst e1
    exact ⟨rfl, hye.1⟩
  have hl1 : E1.length ≤ E0.length := by rw [e1, pu_len]; omega
  cases R with
  | nil =>
    have hg0 : g = g0 := CR
    refine r_leave (a := 0) (g := g) (b := 0) (hh := 0) (i := vb [] + E1.length) (v := v) (by omega) rfl XA.2.2.2.2.1 hg2 XA.2.2.2.2.2.1 (by omega) hbot (by omega) (by omega) eVx (fun _ => ?_) (fun z => absurd rfl z) (fun z => absurd rfl z)
    refine hP _ (r_140t 0 (by omega) rfl ?_)
    by_cases z : g = 0
    · refine h _ (y_count, y_place, nI s, y_pos, y_wrong, y_constant, y_least, y_top, y_frames, y_invalid, nI 0, nI 0, nI 0, nI (120 - fu), 0, -1, y_result, y_used, y_waits, y_printed, y_bytes, y_there, y_types, y_typeSig, y_imports, y_functions, y_sig, y_what, y_typeAt, y_localsAt, y_globals, y_globalKind, y_globalFree, y_globalValue, y_entries, y_entriesAt, y_hasMemory, y_memory, y_nest, y_kinds, y_shape, y_gives, y_height, y_dead, y_stack, y_labelAt, y_labelHeight, y_labelGives, y_callModule, y_callFunction, y_callBack, y_callBase, y_callLabels, y_waiting, y_prints) (nI 0) (fin_d W hfu (fun _ => by show (if g = 0 then (0 : Int64) else v) = 0; rw [if_pos z]) (fun y => absurd (hg0.symm.trans z) y)) (hY _ _ (fun QQ hQ a w k => ?_))
      exact y_leave (a := 0) (s := s) (f := f) (g := g) (b := 0) (lb := 0) (bk := 0) (i := yb [] + nv + E1.length) (v := v) (by omega) rfl YA.2.2.2.1 YA.2.2.2.2.1 hs y4 y1 y2 y3 YA.2.2.2.2.2.1 (by omega) YA.2.2.2.2.2.2.1 YA.2.2.2.2.2.2.2.1 (by omega) eVy (fun _ _ => hQ _ _ _) (fun _ y => absurd z y) (fun y => absurd rfl y) (fun y => absurd rfl y)
    · refine h _ (y_count, y_place, nI s, y_pos, y_wrong, y_constant, y_least, y_top, y_frames, y_invalid, nI 1, nI 0, nI 0, nI (120 - fu), 0, -1, y_result, y_used, y_waits, y_printed, y_bytes, y_there, y_types, y_typeSig, y_imports, y_functions, y_sig, y_what, y_typeAt, y_localsAt, y_globals, y_globalKind, y_globalFree, y_globalValue, y_entries, y_entriesAt, y_hasMemory, y_memory, y_nest, y_kinds, y_shape, y_gives, y_height, y_dead, vp_updL y_stack 0 v, y_labelAt, y_labelHeight, y_labelGives, y_callModule, y_callFunction, y_callBack, y_callBase, y_callLabels, y_waiting, y_prints) (nI 0) (fin_d W hfu (fun y => absurd (hg0.trans y) z) (fun y => by show vp_updL y_stack 0 v 0 = (if g = 0 then (0 : Int64) else v); rw [if_neg z, pk_uLs])) (hY _ _ (fun QQ hQ a w k => ?_))
      exact y_leave (a := 0) (s := s) (f := f) (g := g) (b := 0) (lb := 0) (bk := 0) (i := yb [] + nv + E1.length) (v := v) (by omega) rfl YA.2.2.2.1 YA.2.2.2.2.1 hs y4 y1 y2 y3 YA.2.2.2.2.2.1 (by omega) YA.2.2.2.2.2.2.1 YA.2.2.2.2.2.2.2.1 (by omega) eVy (fun _ y => absurd y z) (fun _ _ => hQ _ _ _) (fun y => absurd rfl y) (fun y => absurd rfl y)
  | cons a2 R2 =>
    obtain ⟨s2, f2, nv2, g2, p2, E2, L2, F2⟩ := a2
    obtain ⟨AO2, CR2⟩ := CR
    rw [List.length_cons] at hR
    have hmu : mu ((s2, f2, nv2, g2, p2, E2, L2, F2) :: R2) fu < mu ((s, f, nv, g, p, X ++ E0, L, F) :: (s2, f2, nv2, g2, p2, E2, L2, F2) :: R2) fu := by simp only [mu, msum]; omega
    have xa := XA.2.2.2.2.2.2
    have ya := YA.2.2.2.2.2.2.2.2
    obtain ⟨k0, k1⟩ := fin_l (v := v) W hfu (by omega) AO2 CR2 xa AR.2 ya e3 hmu
    have b1' : vb R2 + E2.length ≤ 20 * (R2.length + 1) := b1
    have b2' : fb R2 + F2.length ≤ 8 * (R2.length + 1) := b2
    have b3' : yb R2 + nv2 + E2.length ≤ 26 * (R2.length + 1) := b3
    have hn0 : R2.length + 1 ≠ 0 := by omega
    refine r_leave (a := R2.length + 1) (g := g) (b := fb R2 + F2.length) (hh := vb R2 + E2.length) (i := vb ((s2, f2, nv2, g2, p2, E2, L2, F2) :: R2) + E1.length) (v := v) (by omega) rfl XA.2.2.2.2.1 hg2 XA.2.2.2.2.2.1 (by omega) hbot (by omega) (by show vb R2 + E2.length + E1.length < 256; omega) eVx (fun z => absurd z hn0) (fun _ z => ?_) (fun _ z => ?_)
    · refine hP _ (r_140 rfl ?_)
      rw [show x_activeResume (R2.length + 1 - 1) = nI p2 from AR.1]
      refine h _ (y_count, y_place, nI s2, y_pos, y_wrong, y_constant, y_least, y_top, y_frames, y_invalid, nI (yb R2 + nv2 + E2.length), nI (fb R2 + F2.length), nI (R2.length + 1), nI (120 - fu), 0, -1, y_result, y_used, y_waits, y_printed, y_bytes, y_there, y_types, y_typeSig, y_imports, y_functions, y_sig, y_what, y_typeAt, y_localsAt, y_globals, y_globalKind, y_globalFree, y_globalValue, y_entries, y_entriesAt, y_hasMemory, y_memory, y_nest, y_kinds, y_shape, y_gives, y_height, y_dead, y_stack, y_labelAt, y_labelHeight, y_labelGives, y_callModule, y_callFunction, y_callBack, y_callBase, y_callLabels, y_waiting, y_prints) (nI p2) (k0 z) (hY _ _ (fun QQ hQ a w k => ?_))
      refine y_leave (a := R2.length + 1) (s := s) (f := f) (g := g) (b := yb R2 + nv2 + E2.length) (lb := fb R2 + F2.length) (bk := p2) (i := yb ((s2, f2, nv2, g2, p2, E2, L2, F2) :: R2) + nv + E1.length) (v := v) (by omega) rfl YA.2.2.2.1 YA.2.2.2.2.1 hs y4 y1 y2 y3 YA.2.2.2.2.2.1 (by omega) YA.2.2.2.2.2.2.1 YA.2.2.2.2.2.2.2.1 (by show yb R2 + nv2 + E2.length + nv + E1.length < 320; omega) eVy (fun y => absurd y hn0) (fun y => absurd y hn0) (fun _ _ => ?_) (fun _ y => absurd z y)
      rw [show y_callModule (R2.length + 1 - 1) = nI s2 from ya.2.2.2.1]
      exact hQ _ _ _
    · refine hP _ (r_140 rfl ?_)
      rw [show x_activeResume (R2.length + 1 - 1) = nI p2 from AR.1]
      refine h _ (y_count, y_place, nI s2, y_pos, y_wrong, y_constant, y_least, y_top, y_frames, y_invalid, nI (yb R2 + nv2 + E2.length + 1), nI (fb R2 + F2.length), nI (R2.length + 1), nI (120 - fu), 0, -1, y_result, y_used, y_waits, y_printed, y_bytes, y_there, y_types, y_typeSig, y_imports, y_functions, y_sig, y_what, y_typeAt, y_localsAt, y_globals, y_globalKind, y_globalFree, y_globalValue, y_entries, y_entriesAt, y_hasMemory, y_memory, y_nest, y_kinds, y_shape, y_gives, y_height, y_dead, vp_updL y_stack (yb R2 + nv2 + E2.length) v, y_labelAt, y_labelHeight, y_labelGives, y_callModule, y_callFunction, y_callBack, y_callBase, y_callLabels, y_waiting, y_prints) (nI p2) (k1 z) (hY _ _ (fun QQ hQ a w k => ?_))
      refine y_leave (a := R2.length + 1) (s := s) (f := f) (g := g) (b := yb R2 + nv2 + E2.length) (lb := fb R2 + F2.length) (bk := p2) (i := yb ((s2, f2, nv2, g2, p2, E2, L2, F2) :: R2) + nv + E1.length) (v := v) (by omega) rfl YA.2.2.2.1 YA.2.2.2.2.1 hs y4 y1 y2 y3 YA.2.2.2.2.2.1 (by omega) YA.2.2.2.2.2.2.1 YA.2.2.2.2.2.2.2.1 (by show yb R2 + nv2 + E2.length + nv + E1.length < 320; omega) eVy (fun y => absurd y hn0) (fun y => absurd y hn0) (fun _ y => absurd y z) (fun _ _ => ?_)
      rw [show y_callModule (R2.length + 1 - 1) = nI s2 from ya.2.2.2.1]
      exact hQ _ _ _
end
