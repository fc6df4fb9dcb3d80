theorem b_sh : ∀ t, t < 2 → ∀ f, f < 7 → (nI (16 * t + f) >>> ((4 : Int32) &&& 31)) = nI t ∧ nI (16 * t + f) &&& 15 = nI f ∧ ¬ nI (16 * t + f) = 256 ∧ ¬ nI (16 * t + f) = 257 := by decide
section
variable {x_byteCount x_wrongPlace x_at x_frameCount x_kindCount x_valueCount x_activeCount x_goesOn x_outcome x_trapPlace x_fuelUsed x_firstWaiting x_waitingCount x_printCount : Int32} {x_resultValue : Int64} {x_code x_facts x_partner x_loaded x_memories x_frameAt x_frameHeight x_frameResult x_frameDead x_kinds x_activeSlot x_activeGives x_activeFrame x_activeResume x_waiting x_prints : Nat → Int32} {x_globals x_values x_variables : Nat → Int64}
variable {y_count y_place y_m y_pos y_wrong y_least y_top y_frames y_invalid y_sp y_labels y_active y_fuel y_outcome y_trappedAt y_used y_waits y_printed : Int32} {y_constant y_result : Int64} {y_bytes y_there y_types y_typeSig y_imports y_functions y_sig y_what y_typeAt y_localsAt y_globals y_globalKind y_globalFree y_entries y_entriesAt y_hasMemory y_memory y_nest y_kinds y_shape y_gives y_height y_dead y_labelAt y_labelHeight y_labelGives y_callModule y_callFunction y_callBack y_callBase y_callLabels y_waiting y_prints : Nat → Int32} {y_globalValue y_stack : Nat → Int64}
variable {B : Nat → Bool} {C : Nat → Nat → Nat} {N : Nat → Nat} {PP : Nat → Nat → Nat} {n : Nat} {cd : Nat → Nat} {g0 fu s f nv g p : Nat} {E : List ev} {L : Nat → Int64} {F : List vt_Fr} {R : List ac}
variable {post : SX → Prop}
theorem cal {X E0 Z : List ev} {x t ff ty : Nat} {P : SX → Prop} (W : wo_ok B C N PP n cd x_byteCount x_wrongPlace x_firstWaiting x_waitingCount x_printCount x_code x_facts x_partner x_loaded x_globals x_memories x_waiting x_prints y_count y_place y_waits y_printed y_bytes y_there y_types y_typeSig y_imports y_functions y_sig y_what y_localsAt y_globals y_globalValue y_entries y_entriesAt y_hasMemory y_memory y_waiting y_prints) (hfu : fu ≤ 120) (hR : R.length < 10) (AO : a_ok B C N PP 0 s f nv g p E L F) (CR : ch_ok B C N PP g0 g R) (XA : xa_ok x_frameAt x_frameHeight x_values x_variables x_activeSlot x_activeGives x_activeFrame ((s, f, nv, g, p, E, L, F) :: R)) (AR : ar_ok x_activeResume R) (YA : ya_ok y_stack y_labelAt y_labelHeight y_labelGives y_callModule y_callFunction y_callBack y_callBase y_callLabels ((s, f, nv, g, p, E, L, F) :: R)) (eE : E = Z ++ (X ++ E0)) (hop : C s p = 11 ∨ C s p = 12) (hx : x < m_I (C s) (N s) + m_F (C s) (N s)) (T : tg B C N s x t ff) (hty : ty_ok (C s) ty) (hsg : sg (C s) ty = sg (C s) (m_ty (C s) (N s) (C s (m_fa (C s) (N s) x)))) (hXl : X.length = C s ty) (hh0 : f_h F ≤ E0.length) (ht0 : tv E0) (hvs : v_st (C s) (N s) f p (ek E, F, false) = vt_gr (ty_r (C s) ty) (ek E0, F, false)) (hsx : ∀ j, j < X.length → C s (ty + 1 + j) = 1 → sx64 (gv (X ++ E0) (E0.length + j))) (hP : ∀ u, wX_step_140 post (gx_byteCount u) (gx_wrongPlace u) (gx_at u) (gx_frameCount u) (gx_kindCount u) (gx_valueCount u) (gx_activeCount u) (gx_goesOn u) (gx_outcome u) (gx_resultValue u) (gx_trapPlace u) (gx_fuelUsed u) (gx_firstWaiting u) (gx_waitingCount u) (gx_printCount u) (gx_code u) (gx_facts u) (gx_partner u) (gx_loaded u) (gx_globals u) (gx_memories u) (gx_frameAt u) (gx_frameHeight u) (gx_frameResult u) (gx_frameDead u) (gx_kinds u) (gx_values u) (gx_variables u) (gx_activeSlot u) (gx_activeGives u) (gx_activeFrame u) (gx_activeResume u) (gx_waiting u) (gx_prints u) → P u)
    (hY : ∀ v' q, (∀ QQ : Int32 → SY → Prop, (∀ a w k, QQ q (sy3 v' a w k)) → ∀ a w k, wpY_call QQ (y_count, y_place, nI s, a, w, k, y_least, y_top, y_frames, y_invalid, nI (yb R + nv + (X ++ E0).length), nI (fb R + F.length), nI (R.length + 1), nI (120 - fu), 0, -1, y_result, y_used, y_waits, y_printed, y_bytes, y_there, y_types, y_typeSig, y_imports, y_functions, y_sig, y_what, y_typeAt, y_localsAt, y_globals, y_globalKind, y_globalFree, y_globalValue, y_entries, y_entriesAt, y_hasMemory, y_memory, y_nest, y_kinds, y_shape, y_gives, y_height, y_dead, y_stack, y_labelAt, y_labelHeight, y_labelGives, y_callModule, y_callFunction, y_callBack, y_callBase, y_callLabels, y_waiting, y_prints) (nI s) (nI x) (nI p) (nI (nx (C s) p))) → ystep (y_count, y_place, nI s, y_pos, y_wrong, y_constant, y_least, y_top, y_frames, y_invalid, nI (yb R + nv + E.length), nI (fb R + F.length), nI (R.length + 1), nI (120 - fu), 0, -1, y_result, y_used, y_waits, y_printed, y_bytes, y_there, y_types, y_typeSig, y_imports, y_functions, y_sig, y_what, y_typeAt, y_localsAt, y_globals, y_globalKind, y_globalFree, y_globalValue, y_entries, y_entriesAt, y_hasMemory, y_memory, y_nest, y_kinds, y_shape, y_gives, y_height, y_dead, y_stack, y_labelAt, y_labelHeight, y_labelGives, y_callModule, y_callFunction, y_callBack, y_callBase, y_callLabels, y_waiting, y_prints) v' (nI p) q) (h : ∀ u' v' q, nxt B C N PP n cd g0 (mu ((s, f, nv, g, p, E, L, F) :: R) fu) u' v' q → ystep (y_count, y_place, nI s, y_pos, y_wrong, y_constant, y_least, y_top, y_frames, y_invalid, nI (yb R + nv + E.length), nI (fb R + F.length), nI (R.length + 1), nI (120 - fu), 0, -1, y_result, y_used, y_waits, y_printed, y_bytes, y_there, y_types, y_typeSig, y_imports, y_functions, y_sig, y_what, y_typeAt, y_localsAt, y_globals, y_globalKind, y_globalFree, y_globalValue, y_entries, y_entriesAt, y_hasMemory, y_memory, y_nest, y_kinds, y_shape, y_gives, y_height, y_dead, y_stack, y_labelAt, y_labelHeight, y_labelGives, y_callModule, y_callFunction, y_callBack, y_callBase, y_callLabels, y_waiting, y_prints) v' (nI p) q → post u') : wX_runCall_16 P (nI s) (nI x) x_byteCount x_wrongPlace (nI p) (nI (fb R + F.length)) x_kindCount (nI (vb R + (X ++ E0).length)) (nI (R.length + 1)) (nI (nx (C s) p)) (-1) 0 (-1) (nI fu) x_firstWaiting x_waitingCount x_printCount x_code x_facts x_partner x_loaded x_globals x_memories x_frameAt x_frameHeight x_frameResult x_frameDead x_kinds x_values x_variables x_activeSlot x_activeGives x_activeFrame x_activeResume x_waiting x_prints := by
  obtain ⟨sm, mp, hN, M, Q, ⟨k, wkk⟩, eS, b1, b2, b3, b4, hs, hpn, h66, hRd, htv, hE20, hh, hd, hnv, hp⟩ := op_f W hfu hR AO CR XA AR YA
  obtain ⟨ok, okn⟩ := wk_s wkk
  have hB := AO.2.1
  obtain ⟨t1, t2, t3, t4, t5, t6⟩ := id T
  have hcnd : ∀ s, s < 2 → B s = true → sm_ok (C s) (N s) (PP s) := fun s hs hB => (W.2.2.2.2.2.2.2.2.2.2.1 s hs hB).1
  have smt := hcnd t t1 t2
  have tyt := sm_t smt t3
  have hsg2 : sg (C s) ty = sg (C t) (m_ty (C t) (N t) (C t (m_fa (C t) (N t) ff))) := hsg.trans t4
  obtain ⟨g1, g2, g3⟩ := sg_eq hty tyt hsg2
  have eE' : E = (Z ++ X) ++ E0 := by rw [eE, List.append_assoc]
  have AO1 := AO
  rw [eE'] at AO1 hvs
  obtain ⟨AC, ac1, ac2⟩ := a_call AO1 hN hop hh0 ht0 hvs
  have XA1 := XA
  have YA1 := YA
  rw [eE'] at XA1 YA1
  have xac := xa_0 (p' := nx (C s) p) (X := Z ++ X) XA1
  have yac := ya_0 (p' := nx (C s) p) (X := Z ++ X) YA1
  have hxe : el_ok x_values (vb R) (X ++ E0) := el_app Z (X ++ E0) (by rw [← eE]; exact XA.1)
  have hye : el_ok y_stack (yb R + nv) (X ++ E0) := el_app Z (X ++ E0) (by rw [← eE]; exact YA.1)
  have hlen : (X ++ E0).length = X.length + E0.length := List.length_append
  have hE2 : (X ++ E0).length ≤ 20 := by rw [eE, List.length_append] at hE20; omega
  have hmu1 : ∀ E' : List ev, mu ((s, f, nv, g, nx (C s) p, E', L, F) :: R) fu < mu ((s, f, nv, g, p, E, L, F) :: R) fu := fun E' => mu_s ac1 (by omega)
  refine r_cl W hs hB hx T (fun hown => ?_) (fun himp => ?_)
  · -- a function of its own
    obtain ⟨y1, y2, y3, y4⟩ := y_sg W t1 t2 t3
    obtain ⟨k1, k2, k3, k4⟩ := b_sh t t1 ff y4
    have n4 := sg_np tyt
    have mpt := (mp_of smt.2.1).1
    have W11 := W.2.2.2.2.2.2.2.2.2.2.1 t t1 t2
    have hNt := smt.1
    have hfa := mpt.2.2.2.2.1 ff t3
    have hFl := AO.2.2.2.2.2.2.2.2.2.1
    have hnl := (mpt.2.2.2.2.2.1 ff hown t3).1
    have hnp3 := tyt.1
    obtain ⟨np, enp⟩ : ∃ np, np = C t (m_ty (C t) (N t) (C t (m_fa (C t) (N t) ff))) := ⟨_, rfl⟩
    obtain ⟨nl, enl⟩ : ∃ nl, nl = C t (m_fa (C t) (N t) ff + 1) := ⟨_, rfl⟩
    have env : nvf (C t) (N t) ff = np + nl := by unfold nvf; rw [enp, enl]
    have eXn : X.length = np := by rw [hXl, g1, enp]
    rw [← enp] at n4 hnp3
    rw [← enl] at hnl
    have hlat : y_localsAt (7 * t + ff) = nI (m_fa (C t) (N t) ff + 1) := W11.2.2.1.2.2.2.2.2.2.2.1 ff hown t3
    have hby : y_bytes (140 * t + (m_fa (C t) (N t) ff + 1)) = nI (C t (m_fa (C t) (N t) ff + 1)) := W11.2.2.1.1 _ hfa
    have h256 := W11.2.1.1.2.1 (m_fa (C t) (N t) ff + 1)
    have ebo : m_fa (C t) (N t) ff + 1 + 1 + nl = m_bo (C t) (N t) ff := by unfold m_bo; rw [enl]
    have hg2 : rsf (C t) (N t) ff ≤ 2 := ty_r_le tyt
    refine br_t (by decide) (pk_lt (R.length + 1) 10 (fun z10 => ?_) (fun z10 => ?_))
    · refine r_fuel fu hfu rfl (fun zf => br_f (by decide) ?_) (fun zf => br_t rfl ?_)
      · refine xx_last (k := R.length + 1) (l := 10) (by omega) (by omega) (by omega) ⟨pk_in R.length 10 hR, nm_r (show _ = upd x_activeResume R.length (nI (nx (C s) p)) from by rw [show R.length + 1 - 1 = R.length from rfl, pk_cl R.length]) ?_⟩
        refine r_begin (a := R.length + 1) (i0 := vb R + E0.length) (np := np) (fc := fb R + F.length) (c := C t) (n := N t) (by omega) W11.2.1.1 W11.2.1.2.1 mpt hNt t3 (sm_ty smt ff t3) z10 rfl enp (by congr 1; omega) (by omega) rfl (by omega) (fun VR m1 m2 => ?_)
        refine hP _ (r_140 rfl ?_)
        have AC' : a_ok B C N PP (rsf (C t) (N t) ff) s f nv g (nx (C s) p) E0 L F := by rw [rsf, ← g2]; exact AC
        obtain ⟨AN, an2⟩ := a_new (B := B) (L := lvf (X ++ E0) E0.length (C s ty)) smt t1 t2 hown t3 (lv_sx hty tyt hsg2 (fun j hj => hsx j (by omega)))
        have hCs : C s ty = np := by rw [← hXl]; exact eXn
        have hgx : ∀ i, i < np → x_values (vb R + E0.length + i) = gv (X ++ E0) (E0.length + i) := fun i hi => by
          have := gv_el _ hxe (E0.length + i) (by omega)
          rw [← this]; congr 1; omega
        have hgy : ∀ i, i < np → y_stack (yb R + nv + E0.length + i) = gv (X ++ E0) (E0.length + i) := fun i hi => by
          have := gv_el _ hye (E0.length + i) (by omega)
          rw [← this]; congr 1; omega
        have xan := xa_new (s := t) (f := ff) (nv := nvf (C t) (N t) ff) (g := rsf (C t) (N t) ff) (p := m_bo (C t) (N t) ff) (L := lvf (X ++ E0) E0.length (C s ty)) (VR' := VR) xac (fun a ha => by
            rcases List.mem_cons.mp ha with rfl | ha
            · exact hnv
            · exact b4 a ha) (fun i hi => by
            rw [show ((s, f, nv, g, nx (C s) p, E0, L, F) :: R).length = R.length + 1 from rfl, m1 i (by omega)]
            unfold lvf
            rw [hCs]
            by_cases q : i < np
            · rw [if_pos q, if_pos q]; exact hgx i q
            · rw [if_neg q, if_neg q]) (fun j hj => m2 j (by rw [List.length_cons] at hj; omega))
        have yan := ya_new (s := t) (f := ff) (nv := nvf (C t) (N t) ff) (g := rsf (C t) (N t) ff) (p := m_bo (C t) (N t) ff) (L := lvf (X ++ E0) E0.length (C s ty)) (ST' := pfill y_stack (yb R + nv + E0.length + np) (fun _ => 0) nl) yac (fun i hi => by
            show pfill y_stack (yb R + nv + E0.length + np) (fun _ => 0) nl (yb R + nv + E0.length + i) = _
            unfold lvf
            rw [hCs]
            by_cases q : i < np
            · rw [if_pos q, pf_lo _ _ (by omega)]; exact hgy i q
            · rw [if_neg q, show yb R + nv + E0.length + i = yb R + nv + E0.length + np + (i - np) by omega]
              exact pf_in nl (i - np) (by omega)) (fun j hj => pf_lo _ _ (by have hj' : j < yb R + nv + E0.length := hj; omega))
        have arn : ar_ok (upd x_activeResume R.length (nI (nx (C s) p))) ((s, f, nv, g, nx (C s) p, E0, L, F) :: R) := ⟨pk_us, ar_ext R AR (fun j hj => pk_un (by omega))⟩
        refine h _ (y_count, y_place, nI t, y_pos, y_wrong, y_constant, y_least, y_top, y_frames, y_invalid, nI (yb R + nv + E0.length + nvf (C t) (N t) ff), nI (fb R + F.length + 1), nI (R.length + 1 + 1), nI (120 - (fu + 1)), 0, -1, y_result, y_used, y_waits, y_printed, y_bytes, y_there, y_types, y_typeSig, y_imports, y_functions, y_sig, y_what, y_typeAt, y_localsAt, y_globals, y_globalKind, y_globalFree, y_globalValue, y_entries, y_entriesAt, y_hasMemory, y_memory, y_nest, y_kinds, y_shape, y_gives, y_height, y_dead, pfill y_stack (yb R + nv + E0.length + np) (fun _ => 0) nl, upd y_labelAt (fb R + F.length) (-1), upd y_labelHeight (fb R + F.length) (nI (yb R + nv + E0.length + nvf (C t) (N t) ff)), upd y_labelGives (fb R + F.length) (nI (rsf (C t) (N t) ff)), upd y_callModule (R.length + 1) (nI t), upd y_callFunction (R.length + 1) (nI ff), upd y_callBack (R.length + 1) (nI (nx (C s) p)), upd y_callBase (R.length + 1) (nI (yb R + nv + E0.length)), upd y_callLabels (R.length + 1) (nI (fb R + F.length)), y_waiting, y_prints) (nI (m_bo (C t) (N t) ff)) (fin_c (fu := fu + 1) (R := (s, f, nv, g, nx (C s) p, E0, L, F) :: R) W (by omega) z10 AN ⟨AC', CR⟩ xan arn yan (by simp only [mu, msum]; omega)) (hY _ _ (fun QQ hQ a w k => ?_))
        refine y_beh W hs hB T (fun _ => ?_) (fun y => absurd y (by omega))
        refine br_f k3 (br_f k4 (pk_eq (R.length + 1) 10 (fun y => absurd y (by omega)) (fun _ => pk_eq (120 - fu) 0 (fun y => absurd y (by omega)) (fun y => nm_r (show _ = nI (120 - (fu + 1)) from ?_) ?_))))
        · rw [nI_p _ y]; congr 1
        rw [k1, k2]
        refine y_begin (a := R.length + 1) (np := np) (nl := nl) (b := yb R + nv + E0.length) (lb := fb R + F.length) (lat := m_fa (C t) (N t) ff + 1) (g := rsf (C t) (N t) ff) (c := C t) t1 y4 z10 rfl y1 y2 n4.1 y3 hg2 (by congr 1; omega) (by omega) rfl (by omega) (by omega) hlat (by omega) hby enl h256 ?_
        rw [ebo, show yb R + nv + E0.length + np + nl = yb R + nv + E0.length + nvf (C t) (N t) ff by omega]
        exact hQ _ _ _
      · refine hP _ (r_140t 9 (by omega) rfl ?_)
        refine h _ (y_count, y_place, nI s, y_pos, y_wrong, y_constant, y_least, y_top, y_frames, y_invalid, nI (yb R + nv + (X ++ E0).length), nI (fb R + F.length), nI (R.length + 1), nI (120 - fu), nI 9, 1000 * nI s + nI p, y_result, y_used, y_waits, y_printed, y_bytes, y_there, y_types, y_typeSig, y_imports, y_functions, y_sig, y_what, y_typeAt, y_localsAt, y_globals, y_globalKind, y_globalFree, y_globalValue, y_entries, y_entriesAt, y_hasMemory, y_memory, y_nest, y_kinds, y_shape, y_gives, y_height, y_dead, y_stack, y_labelAt, y_labelHeight, y_labelGives, y_callModule, y_callFunction, y_callBack, y_callBase, y_callLabels, y_waiting, y_prints) (nI p) (fin_t (t := 9) W hfu hR eS hs hp (by omega) (by omega)) (hY _ _ (fun QQ hQ a w k => ?_))
        refine y_beh W hs hB T (fun _ => ?_) (fun y => absurd y (by omega))
        refine br_f k3 (br_f k4 (pk_eq (R.length + 1) 10 (fun y => absurd y (by omega)) (fun _ => pk_eq (120 - fu) 0 (fun y => ?_) (fun y => absurd y (by omega)))))
        exact pk_eq (R.length + 1) 10 (fun y => absurd y (by omega)) (fun _ => y_trap s rfl (hQ _ _ _))
    · refine hP _ (r_140t 8 (by omega) rfl ?_)
      refine h _ (y_count, y_place, nI s, y_pos, y_wrong, y_constant, y_least, y_top, y_frames, y_invalid, nI (yb R + nv + (X ++ E0).length), nI (fb R + F.length), nI (R.length + 1), nI (120 - fu), nI 8, 1000 * nI s + nI p, y_result, y_used, y_waits, y_printed, y_bytes, y_there, y_types, y_typeSig, y_imports, y_functions, y_sig, y_what, y_typeAt, y_localsAt, y_globals, y_globalKind, y_globalFree, y_globalValue, y_entries, y_entriesAt, y_hasMemory, y_memory, y_nest, y_kinds, y_shape, y_gives, y_height, y_dead, y_stack, y_labelAt, y_labelHeight, y_labelGives, y_callModule, y_callFunction, y_callBack, y_callBase, y_callLabels, y_waiting, y_prints) (nI p) (fin_t (t := 8) W hfu hR eS hs hp (by omega) (by omega)) (hY _ _ (fun QQ hQ a w k => ?_))
      refine y_beh W hs hB T (fun _ => ?_) (fun y => absurd y (by omega))
      refine br_f k3 (br_f k4 (pk_eq (R.length + 1) 10 (fun y => ?_) (fun y => absurd y (by omega))))
      exact pk_eq (R.length + 1) 10 (fun _ => y_trap s rfl (hQ _ _ _)) (fun q => absurd y q)
  · have hw := t6 himp
    have efa : m_fa (C t) (N t) ff = m_im (C t) (N t) ff := by rw [m_fa, if_pos himp]
    rw [← efa] at hw
    rcases hw with ⟨hw1, hw2⟩ | ⟨hw1, hw2⟩
    · rw [efa] at hw1
      have s5 : sg (C s) ty = 5 := hsg2.trans hw2
      have n5 := sg_np hty
      have l1 : X.length = 1 := by rw [hXl]; omega
      have r0 : ty_r (C s) ty = 0 := by omega
      rw [r0] at AC
      obtain ⟨kv, rfl⟩ : ∃ kv, X = [kv] := List.length_eq_one_iff.mp l1
      obtain ⟨kd, v⟩ := kv
      rw [hw1]
      have w7 : x_printCount = y_printed := W.2.2.2.2.2.2.1
      have w8 : x_prints = y_prints := W.2.2.2.2.2.2.2.1
      refine pk_lt 16 0 (fun y => absurd y (by omega)) (fun _ => ?_)
      refine r_print (i := vb R + E0.length) (v := v) rfl (by omega) hxe.1 ?_
      refine hP _ (r_140 rfl ?_)
      have W' := wo_p (PC := y_printed + 1) (PR := upd y_prints (y_printed &&& 15).toNatClampNeg v.toInt32) W
      subst w7 w8
      refine h _ (y_count, y_place, nI s, y_pos, y_wrong, y_constant, y_least, y_top, y_frames, y_invalid, nI (yb R + nv + E0.length), nI (fb R + F.length), nI (R.length + 1), nI (120 - fu), 0, -1, y_result, y_used, y_waits, x_printCount + 1, y_bytes, y_there, y_types, y_typeSig, y_imports, y_functions, y_sig, y_what, y_typeAt, y_localsAt, y_globals, y_globalKind, y_globalFree, y_globalValue, y_entries, y_entriesAt, y_hasMemory, y_memory, y_nest, y_kinds, y_shape, y_gives, y_height, y_dead, y_stack, y_labelAt, y_labelHeight, y_labelGives, y_callModule, y_callFunction, y_callBack, y_callBase, y_callLabels, y_waiting, upd x_prints (x_printCount &&& 15).toNatClampNeg v.toInt32) (nI (nx (C s) p)) (fin_c W' hfu hR AC CR xac AR yac (hmu1 _)) (hY _ _ (fun QQ hQ a w k => ?_))
      refine y_beh W hs hB T (fun y => absurd y (by omega)) (fun _ => ?_)
      rw [hw1]
      have es : (nI (yb R + nv + ([(kd, v)] ++ E0).length) : Int32) - 1 = nI (yb R + nv + E0.length) := nI_p (yb R + nv + E0.length + 1) (by omega)
      refine br_t rfl (nm_r rfl (nm_r es ⟨pk_in (yb R + nv + E0.length) 320 (by omega) es, pk_andIn x_printCount 4 (by decide) (by omega), nm_r (show _ = upd x_prints (x_printCount &&& 15).toNatClampNeg v.toInt32 from ?_) (hQ _ _ _)⟩))
      rw [pk_cl (yb R + nv + E0.length) es, show y_stack (yb R + nv + E0.length) = v from hye.1]
    · rw [efa] at hw1
      have s5 : sg (C s) ty = 256 := hsg2.trans hw2
      have n5 := sg_np hty
      have l0 : X.length = 0 := by rw [hXl]; omega
      have r1 : ty_r (C s) ty = 1 := by omega
      rw [r1] at AC
      have hX : X = [] := List.length_eq_zero_iff.mp l0
      subst hX
      rw [hw1]
      obtain ⟨wn, fw, v1, v2, v3, v4, v5, v6⟩ := W.2.2.2.2.2.2.2.2.1
      have AR' := fun v (hv : (1 : Nat) = 1 → sx64 v) => a_ret (v := v) AC hv
      refine pk_lt 17 0 (fun y => absurd y (by omega)) (fun _ => ?_)
      refine r_input (i := vb R + E0.length) (fw := fw) (w := wn) rfl (by omega) v3 v1 v5 v4 (fun z => ?_) (fun z => ?_)
      · refine hP _ (r_140 rfl ?_)
        refine h _ (y_count, y_place, nI s, y_pos, y_wrong, y_constant, y_least, y_top, y_frames, y_invalid, nI (yb R + nv + E0.length + 1), nI (fb R + F.length), nI (R.length + 1), nI (120 - fu), 0, -1, y_result, y_used, y_waits, y_printed, y_bytes, y_there, y_types, y_typeSig, y_imports, y_functions, y_sig, y_what, y_typeAt, y_localsAt, y_globals, y_globalKind, y_globalFree, y_globalValue, y_entries, y_entriesAt, y_hasMemory, y_memory, y_nest, y_kinds, y_shape, y_gives, y_height, y_dead, vp_updL y_stack (yb R + nv + E0.length) (-1), y_labelAt, y_labelHeight, y_labelGives, y_callModule, y_callFunction, y_callBack, y_callBase, y_callLabels, y_waiting, y_prints) (nI (nx (C s) p)) (fin_c W hfu hR (AR' (-1) (fun _ => by unfold sx64; decide)) CR (xa_1 (X := []) xac b4) AR (ya_1 (X := []) yac) (hmu1 _)) (hY _ _ (fun QQ hQ a w k => ?_))
        refine y_beh W hs hB T (fun y => absurd y (by omega)) (fun _ => ?_)
        rw [hw1]
        refine br_f (by decide) (br_t rfl ?_)
        exact y_input (i := yb R + nv + E0.length) v3 v2 (by omega) rfl (fun _ => hQ _ _ _) (fun y => absurd z y)
      · obtain ⟨wn, rfl⟩ : ∃ k, wn = k + 1 := ⟨wn - 1, by omega⟩
        have e0 : x_waiting fw = y_waiting 0 := by
          have := v6 0 (by omega)
          rw [Nat.add_zero, Nat.mod_eq_of_lt v5] at this
          exact this
        have W' := wo_i (w := wn) (f := fw) (WB := wshift y_waiting wn) W (by omega) v5 v6 (fun i hi => ws_lo wn i hi)
        rw [e0]
        refine hP _ (r_140 rfl ?_)
        refine h _ (y_count, y_place, nI s, y_pos, y_wrong, y_constant, y_least, y_top, y_frames, y_invalid, nI (yb R + nv + E0.length + 1), nI (fb R + F.length), nI (R.length + 1), nI (120 - fu), 0, -1, y_result, y_used, nI wn, y_printed, y_bytes, y_there, y_types, y_typeSig, y_imports, y_functions, y_sig, y_what, y_typeAt, y_localsAt, y_globals, y_globalKind, y_globalFree, y_globalValue, y_entries, y_entriesAt, y_hasMemory, y_memory, y_nest, y_kinds, y_shape, y_gives, y_height, y_dead, vp_updL y_stack (yb R + nv + E0.length) (y_waiting 0).toInt64, y_labelAt, y_labelHeight, y_labelGives, y_callModule, y_callFunction, y_callBack, y_callBase, y_callLabels, wshift y_waiting wn, y_prints) (nI (nx (C s) p)) (fin_c W' hfu hR (AR' _ (fun _ => sx_z _)) CR (xa_1 (X := []) xac b4) AR (ya_1 (X := []) yac) (hmu1 _)) (hY _ _ (fun QQ hQ a w k => ?_))
        refine y_beh W hs hB T (fun y => absurd y (by omega)) (fun _ => ?_)
        rw [hw1]
        refine br_f (by decide) (br_t rfl ?_)
        exact y_input (i := yb R + nv + E0.length) v3 v2 (by omega) rfl (fun y => absurd y z) (fun _ => hQ _ _ _)
end
