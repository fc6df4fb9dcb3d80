theorem i_vc_invoke {k : Nat} {u : SX} {v : SY} (I : i_Rel k u v) (hk : k + 9 ≤ 4608) (v1 : Int32) (v2 : Int32) (a2 : Int64) (a3 : Int64) (a4 : Int64) : wpX_invoke (fun r u' => wpY_invoke (fun r' v' => r' = r ∧ i_Rel (k + 9) u' v') v v1 v2 a2 a3 a4) u v1 v2 a2 a3 a4 := by
  obtain ⟨x_byteCount, x_wrongPlace, x_at, x_frameCount, x_kindCount, x_valueCount, x_activeCount, x_goesOn, x_outcome, x_resultValue, x_trapPlace, x_fuelUsed, x_firstWaiting, x_waitingCount, x_printCount, x_code, x_facts, x_partner, x_loaded, x_globals, x_memories, x_frameAt, x_frameHeight, x_frameResult, x_frameDead, x_kinds, x_values, x_variables, x_activeSlot, x_activeGives, x_activeFrame, x_activeResume, x_waiting, x_prints⟩ := u
  obtain ⟨y_count, y_place, y_m, y_pos, y_wrong, y_constant, y_least, y_top, y_frames, y_invalid, y_sp, y_labels, y_active, y_fuel, y_outcome, y_trappedAt, y_result, y_used, y_waits, y_printed, y_bytes, y_there, y_types, y_typeSig, y_imports, y_functions, y_sig, y_what, y_typeAt, y_localsAt, y_globals, y_globalKind, y_globalFree, y_globalValue, y_entries, y_entriesAt, y_hasMemory, y_memory, y_nest, y_kinds, y_shape, y_gives, y_height, y_dead, y_stack, y_labelAt, y_labelHeight, y_labelGives, y_callModule, y_callFunction, y_callBack, y_callBase, y_callLabels, y_waiting, y_prints⟩ := v
  obtain ⟨B, C, N, PP, n, cd, W⟩ := rl_wo (show rl_ok x_byteCount x_wrongPlace x_resultValue x_trapPlace x_fuelUsed x_firstWaiting x_waitingCount x_printCount x_code x_facts x_partner x_loaded x_globals x_memories x_waiting x_prints y_count y_place y_trappedAt y_result y_used y_waits y_printed y_bytes y_there y_types y_typeSig y_imports y_functions y_sig y_what y_localsAt y_globals y_globalValue y_entries y_entriesAt y_hasMemory y_memory y_waiting y_prints from I)
  have IB : i_Rel (k + 9) (x_byteCount, x_wrongPlace, x_at, x_frameCount, x_kindCount, x_valueCount, x_activeCount, x_goesOn, x_outcome, x_resultValue, x_trapPlace, x_fuelUsed, x_firstWaiting, x_waitingCount, x_printCount, x_code, x_facts, x_partner, x_loaded, x_globals, x_memories, x_frameAt, x_frameHeight, x_frameResult, x_frameDead, x_kinds, x_values, x_variables, x_activeSlot, x_activeGives, x_activeFrame, x_activeResume, x_waiting, x_prints) (y_count, y_place, y_m, y_pos, y_wrong, y_constant, y_least, y_top, y_frames, y_invalid, y_sp, y_labels, y_active, y_fuel, y_outcome, y_trappedAt, y_result, y_used, y_waits, y_printed, y_bytes, y_there, y_types, y_typeSig, y_imports, y_functions, y_sig, y_what, y_typeAt, y_localsAt, y_globals, y_globalKind, y_globalFree, y_globalValue, y_entries, y_entriesAt, y_hasMemory, y_memory, y_nest, y_kinds, y_shape, y_gives, y_height, y_dead, y_stack, y_labelAt, y_labelHeight, y_labelGives, y_callModule, y_callFunction, y_callBack, y_callBase, y_callLabels, y_waiting, y_prints) := I
  unfold wpX_invoke
  rcases sl_case v1 with ⟨s, hs, rfl⟩ | ⟨z0, z1, z2⟩
  · obtain ⟨l1, l2⟩ := W.2.2.2.2.2.2.2.2.2.1 s hs
    have eX : x_loaded (nI s).toNatClampNeg = bb_i (B s) := by rw [pk_cl s]; exact l1
    have eY : y_there (nI s).toNatClampNeg = bb_i (B s) := by rw [pk_cl s]; exact l2
    refine xs_1 hs (br_f (by decide) ⟨pk_in s 2 hs, ?_⟩)
    have vs3 : vp_in (nI s) 3 := pk_in s 3 (by omega)
    have n0 : ¬ nI s < 0 := nI_pos (by omega)
    have n1 : ¬ (1 : Int32) < nI s := nI_nlt (b := s) (a := 1) (by omega) (by decide)
    cases hB : B s with
    | false =>
      rw [hB] at eX eY
      exact br_t eX (br_f n0 (br_f n1 ⟨vs3, br_t eY ⟨rfl, IB⟩⟩))
    | true =>
      rw [hB] at eX eY
      have nX : ¬ x_loaded (nI s).toNatClampNeg = 0 := by rw [eX]; decide
      have nY : ¬ y_there (nI s).toNatClampNeg = 0 := by rw [eY]; decide
      obtain ⟨sm, sx, sk, lk⟩ := W.2.2.2.2.2.2.2.2.2.2.1 s hs hB
      have mp := (mp_of sm.2.1).1
      have hN := sm.1
      have hI3 := mp.2.2.1
      have hF4 := mp.2.2.2.1
      have eI : y_imports (nI s).toNatClampNeg = nI (m_I (C s) (N s)) := by rw [pk_cl s]; exact sk.2.2.2.1
      have eF : y_functions (nI s).toNatClampNeg = nI (m_I (C s) (N s) + m_F (C s) (N s)) := by rw [pk_cl s]; exact sk.2.2.2.2.1
      refine br_f nX ?_
      refine xx_fact (m := s) (w := 1) (z := nI (m_I (C s) (N s))) sx.2.1.2.1 (by omega) (by omega) (br_c (fun y => br_f n0 (br_f n1 ⟨vs3, br_f nY ⟨vs3, br_t (by rw [eI]; exact y) ⟨rfl, IB⟩⟩⟩)) (fun y => ?_))
      refine xx_fact (m := s) (w := 2) (z := nI (m_I (C s) (N s) + m_F (C s) (N s))) sx.2.1.2.2.1 (by omega) (by omega) (br_c (fun y2 => ?_) (fun y2 => br_f n0 (br_f n1 ⟨vs3, br_f nY ⟨vs3, br_f (by rw [eI]; exact y) ⟨vs3, br_f (by rw [eF]; exact y2) ⟨rfl, IB⟩⟩⟩⟩)))
      have hpos : ¬ v2 < 0 := fun q => y (Int32.lt_of_lt_of_le q (Int32.not_lt.mp (nI_pos (by omega))))
      obtain ⟨f, hf31, rfl⟩ := nI_of hpos
      have hf1 : m_I (C s) (N s) ≤ f := by
        have y' := y
        rw [nI_ltI hf31 (by omega)] at y'
        omega
      have hf2 : f < m_I (C s) (N s) + m_F (C s) (N s) := by
        have y' := y2
        rw [nI_ltI hf31 (by omega)] at y'
        exact y'
      obtain ⟨q1, q2, q3, q4⟩ := y_sg W hs hB hf2
      have tyo := sm_t sm hf2
      have n4 := sg_np tyo
      obtain ⟨ty, ety⟩ : ∃ ty, ty = m_ty (C s) (N s) (C s (m_fa (C s) (N s) f)) := ⟨_, rfl⟩
      obtain ⟨np, enp⟩ : ∃ np, np = C s ty := ⟨_, rfl⟩
      obtain ⟨nl, enl⟩ : ∃ nl, nl = C s (m_fa (C s) (N s) f + 1) := ⟨_, rfl⟩
      have env : nvf (C s) (N s) f = np + nl := by unfold nvf; rw [enp, enl, ety]
      have hnl := (mp.2.2.2.2.2.1 f hf1 hf2).1
      have hfa := mp.2.2.2.2.1 f hf2
      have hnp3 := tyo.1
      have hrs : rsf (C s) (N s) f ≤ 2 := ty_r_le tyo
      rw [← ety] at q1 q2 q3 tyo n4 hnp3
      rw [← enp] at n4 hnp3
      rw [← enl] at hnl
      obtain ⟨AN, an2⟩ := a_new (B := B) (L := fun i => if i < np then agv (C s) ty a2 a3 a4 i else 0) sm hs hB hf1 hf2 (fun w hw hk => by
        by_cases z : w < np
        · rw [if_pos z]
          unfold agv
          unfold vk at hk
          rw [← ety, if_pos (by omega)] at hk
          rw [if_pos hk]
          exact sx_i _
        · rw [if_neg z]
          unfold sx64
          decide)
      have hlat : y_localsAt (7 * s + f) = nI (m_fa (C s) (N s) f + 1) := sk.2.2.2.2.2.2.2.1 f hf1 hf2
      have hby : y_bytes (140 * s + (m_fa (C s) (N s) f + 1)) = nI (C s (m_fa (C s) (N s) f + 1)) := sk.1 _ hfa
      have h256 := sx.1.2.1 (m_fa (C s) (N s) f + 1)
      have ebo : m_fa (C s) (N s) f + 1 + 1 + nl = m_bo (C s) (N s) f := by unfold m_bo; rw [enl]
      refine r_args (c := C s) (n := N s) (a := a2) (b := a3) (d := a4) hs sx.1 sx.2.1 mp hN hf2 (sm_ty sm f hf2) rfl ?_
      rw [← ety, ← enp]
      refine r_begin (t := s) (f := f) (a := 0) (i0 := 0) (np := np) (fc := 0) (c := C s) (n := N s) (by omega) sx.1 sx.2.1 mp hN hf2 (sm_ty sm f hf2) (by omega) rfl (by rw [enp, ety]) (by rw [Nat.zero_add]) (by omega) rfl (by omega) (fun VR m1 m2 => ?_)
      have xan := xa_new (FA := x_frameAt) (FH := x_frameHeight) (V := pfill x_values 0 (agv (C s) ty a2 a3 a4) np) (VR := x_variables) (AS := x_activeSlot) (AG := x_activeGives) (AF := x_activeFrame) (R := []) (s := s) (f := f) (nv := nvf (C s) (N s) f) (g := rsf (C s) (N s) f) (p := m_bo (C s) (N s) f) (L := fun i => if i < np then agv (C s) ty a2 a3 a4 i else 0) (VR' := VR) trivial (fun a ha => absurd ha (List.not_mem_nil)) (fun i hi => by
        have := m1 i (by omega)
        rw [show ([] : List ac).length * 6 + i = 0 * 6 + i from rfl, this]
        by_cases z : i < np
        · rw [if_pos z, if_pos z]; exact pf_in np i z
        · rw [if_neg z, if_neg z]) (fun j hj => absurd hj (by simp))
      have yan := ya_new (ST := y_stack) (LA := y_labelAt) (LH := y_labelHeight) (LG := y_labelGives) (CM := y_callModule) (CF := y_callFunction) (CB := y_callBack) (CS := y_callBase) (CL := y_callLabels) (R := []) (s := s) (f := f) (nv := nvf (C s) (N s) f) (g := rsf (C s) (N s) f) (p := m_bo (C s) (N s) f) (L := fun i => if i < np then agv (C s) ty a2 a3 a4 i else 0) (ST' := pfill (pfill y_stack 0 (agv (C s) ty a2 a3 a4) np) (0 + np) (fun _ => 0) nl) trivial (fun i hi => by
        show pfill (pfill y_stack 0 (agv (C s) ty a2 a3 a4) np) (0 + np) (fun _ => 0) nl (0 + i) = _
        by_cases z : i < np
        · rw [if_pos z, pf_lo _ _ (by omega)]; exact pf_in np i z
        · rw [if_neg z, show 0 + i = 0 + np + (i - np) by omega]
          exact pf_in nl (i - np) (by omega)) (fun j hj => absurd hj (by show ¬ j < 0; omega))
      have yh : ∀ (Q : Int32 → SY → Prop), (∃ l : Nat, wY_invoke_162 Q (nI (sg (C s) ty)) l (nI (m_bo (C s) (N s) f)) 0 y_count y_place (nI s) y_pos y_wrong y_constant y_least y_top y_frames y_invalid (nI (0 + nvf (C s) (N s) f)) (nI (0 + 1)) (nI (0 + 1)) 120 0 (-1) y_result y_used y_waits y_printed y_bytes y_there y_types y_typeSig y_imports y_functions y_sig y_what y_typeAt y_localsAt y_globals y_globalKind y_globalFree y_globalValue y_entries y_entriesAt y_hasMemory y_memory y_nest y_kinds y_shape y_gives y_height y_dead (pfill (pfill y_stack 0 (agv (C s) ty a2 a3 a4) np) (0 + np) (fun _ => 0) nl) (upd y_labelAt 0 (-1)) (upd y_labelHeight 0 (nI (0 + nvf (C s) (N s) f))) (upd y_labelGives 0 (nI (rsf (C s) (N s) f))) (upd y_callModule 0 (nI s)) (upd y_callFunction 0 (nI f)) (upd y_callBack 0 (nI 0)) (upd y_callBase 0 (nI 0)) (upd y_callLabels 0 (nI 0)) y_waiting y_prints) → wpY_invoke Q (y_count, y_place, y_m, y_pos, y_wrong, y_constant, y_least, y_top, y_frames, y_invalid, y_sp, y_labels, y_active, y_fuel, y_outcome, y_trappedAt, y_result, y_used, y_waits, y_printed, y_bytes, y_there, y_types, y_typeSig, y_imports, y_functions, y_sig, y_what, y_typeAt, y_localsAt, y_globals, y_globalKind, y_globalFree, y_globalValue, y_entries, y_entriesAt, y_hasMemory, y_memory, y_nest, y_kinds, y_shape, y_gives, y_height, y_dead, y_stack, y_labelAt, y_labelHeight, y_labelGives, y_callModule, y_callFunction, y_callBack, y_callBase, y_callLabels, y_waiting, y_prints) (nI s) (nI f) a2 a3 a4 := by
        intro Q hQ
        have e7 : 7 * nI s + nI f = nI (7 * s + f) := by rw [show (7 : Int32) = nI 7 from rfl, pk_mul, nI_add]
        refine br_f n0 (br_f n1 ⟨vs3, br_f nY ⟨vs3, br_f (by rw [eI]; exact y) ⟨vs3, br_t (by rw [eF]; exact y2) ⟨pk_in (7 * s + f) 21 (by omega) e7, nm_r (show _ = nI (sg (C s) ty) from by rw [pk_cl (7 * s + f) e7]; exact q1) ⟨np + 1, ?_⟩⟩⟩⟩⟩)
        refine y_args (c := C s) (t := ty) (y_m := y_m) tyo ?_ np 0 (np + 1) (by omega) (by omega)
        rw [← enp]
        refine y_begin (t := s) (f := f) (a := 0) (np := np) (nl := nl) (b := 0) (lb := 0) (bk := 0) (lat := m_fa (C s) (N s) f + 1) (g := rsf (C s) (N s) f) (c := C s) hs q4 (by omega) rfl q1 q2 n4.1 q3 hrs (by rw [Nat.zero_add]) (by omega) rfl (by omega) (by omega) hlat (by omega) hby enl h256 ?_
        rw [ebo, show 0 + np + nl = 0 + nvf (C s) (N s) f by omega]
        exact hQ
      refine ix (B := B) (C := C) (N := N) (PP := PP) (n := n) (cd := cd) (g0 := rsf (C s) (N s) f) (A := [(s, f, nvf (C s) (N s) f, rsf (C s) (N s) f, m_bo (C s) (N s) f, [], fun i => if i < np then agv (C s) ty a2 a3 a4 i else 0, [(0, rsf (C s) (N s) f, 0, false, m_bo (C s) (N s) f)])]) (fu := 0) (v := (y_count, y_place, nI s, y_pos, y_wrong, y_constant, y_least, y_top, y_frames, y_invalid, nI (0 + nvf (C s) (N s) f), nI (0 + 1), nI (0 + 1), 120, 0, -1, y_result, y_used, y_waits, y_printed, y_bytes, y_there, y_types, y_typeSig, y_imports, y_functions, y_sig, y_what, y_typeAt, y_localsAt, y_globals, y_globalKind, y_globalFree, y_globalValue, y_entries, y_entriesAt, y_hasMemory, y_memory, y_nest, y_kinds, y_shape, y_gives, y_height, y_dead, pfill (pfill y_stack 0 (agv (C s) ty a2 a3 a4) np) (0 + np) (fun _ => 0) nl, upd y_labelAt 0 (-1), upd y_labelHeight 0 (nI (0 + nvf (C s) (N s) f)), upd y_labelGives 0 (nI (rsf (C s) (N s) f)), upd y_callModule 0 (nI s), upd y_callFunction 0 (nI f), upd y_callBack 0 (nI 0), upd y_callBase 0 (nI 0), upd y_callLabels 0 (nI 0), y_waiting, y_prints)) (u := (x_byteCount, x_wrongPlace, nI (m_bo (C s) (N s) f), nI (0 + 1), x_kindCount, nI 0, nI (0 + 1), nI (m_bo (C s) (N s) f), -1, 0, -1, 0, x_firstWaiting, x_waitingCount, x_printCount, x_code, x_facts, x_partner, x_loaded, x_globals, x_memories, upd x_frameAt 0 (nI (m_bo (C s) (N s) f)), upd x_frameHeight 0 (nI 0), x_frameResult, x_frameDead, x_kinds, pfill x_values 0 (agv (C s) ty a2 a3 a4) np, VR, upd x_activeSlot 0 (nI s), upd x_activeGives 0 (nI (rsf (C s) (N s) f)), upd x_activeFrame 0 (nI 0), x_activeResume, x_waiting, x_prints)) ⟨W, ⟨rfl, rfl, by omega⟩, ⟨rfl, rfl, rfl, rfl, rfl⟩, by simp, by simp, ⟨AN, rfl⟩, ⟨rfl, rfl, rfl, rfl, xan, trivial⟩, ⟨rfl, rfl, rfl, rfl, yan⟩⟩ (by simp only [mu, msum]; omega) (fun u' v' q j hf hj hyr => ?_)
      rcases hf with ⟨fu, t, s', p', a, W', ⟨f1, f2, f3⟩, o1, t1, t2, r1, x1, hp', xc, ha, xs, hs', yo, yt⟩ | ⟨fu, W', ⟨f1, f2, f3⟩, o1, tp, yo, yt, ya, r0, r1⟩
      · have hne : ¬ gx_outcome u' = 0 := by rw [o1]; exact nI_ne0 (by omega) (by omega)
        have hney : ¬ gy_outcome v' = 0 := by rw [yo]; exact nI_ne0 (by omega) (by omega)
        have eu : (120 : Int32) - gy_fuel v' = nI fu := by
          rw [f2, show (120 : Int32) = nI 120 from rfl, pk_sub (by omega)]; congr 1; omega
        refine br_f hne ?_
        rw [xc]
        refine xx_last (k := a + 1) (l := 10) (by omega) (by omega) (by omega) ⟨pk_in a 10 ha, nm_r (show _ = 1000 * nI s' + nI p' from by rw [show a + 1 - 1 = a from rfl, pk_cl a, xs, x1]) ?_⟩
        refine yh _ (iy hyr hj (fun b w kk => ?_) (Or.inr hney) y_pos y_wrong y_constant)
        refine br_f hney (nm_r eu ⟨yo.trans o1.symm, ?_⟩)
        exact wo_rl W' r1 yt.symm f1
      · have eu : (120 : Int32) - gy_fuel v' = nI fu := by
          rw [f2, show (120 : Int32) = nI 120 from rfl, pk_sub (by omega)]; congr 1; omega
        refine br_t o1 ?_
        refine yh _ (iy hyr hj (fun b w kk => ?_) (Or.inl (by rw [ya]; decide)) y_pos y_wrong y_constant)
        refine br_t yo ?_
        refine y_gift q2 ?_
        rw [q3]
        refine pk_eq (rsf (C s) (N s) f) 0 (fun z => nm_r eu ⟨yo.trans o1.symm, ?_⟩) (fun z => nm_r eu ⟨yo.trans o1.symm, ?_⟩)
        · exact wo_rl W' (r0 z) (tp.trans yt.symm) f1
        · exact wo_rl W' (r1 z) (tp.trans yt.symm) f1
  · refine br_f z0 (br_f z1 (br_t rfl ?_))
    rcases z2 with z2 | ⟨z2, z3⟩
    · exact br_t z2 ⟨rfl, IB⟩
    · exact br_f z2 (br_t z3 ⟨rfl, IB⟩)
