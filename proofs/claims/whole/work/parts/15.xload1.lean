abbrev xl (u : SX) (z0 : Int32) (z1 : Int32) (z2 : Int32) (z3 : Int32) (z4 : Nat → Int32) (z5 : Nat → Int32) (z6 : Nat → Int32) (z7 : Nat → Int32) (z8 : Nat → Int32) (z9 : Nat → Int32) (z10 : Nat → Int32) : SX := (gx_byteCount u, z0, z1, z2, z3, gx_valueCount u, gx_activeCount u, gx_goesOn u, gx_outcome u, gx_resultValue u, gx_trapPlace u, gx_fuelUsed u, gx_firstWaiting u, gx_waitingCount u, gx_printCount u, gx_code u, z4, z5, gx_loaded u, gx_globals u, gx_memories u, z6, z7, z8, z9, z10, gx_values u, gx_variables u, gx_activeSlot u, gx_activeGives u, gx_activeFrame u, gx_activeResume u, gx_waiting u, gx_prints u)
theorem rd_M_f {c : Nat → Nat} {n : Nat} {q : Bool × Nat} (h : q.1 = false) : rd_M c n q = q := by
  rw [rd_M, rd_tv_f h, if_neg (by decide), rd_tk_f h, rd_ff q h]
theorem rd_e_f {n : Nat} {q : Bool × Nat} (h : q.1 = false) : rd_e n q = q := by
  unfold rd_e; split
  · exact rd_ff q h
  · rfl
theorem rd_E_f {c : Nat → Nat} {n : Nat} {q : Bool × Nat} (h : q.1 = false) : rd_E c n q = q := by
  have h2 : rd_tk c n 0 5 q = q := (rd_G_tk c n 0 5).2 q h
  rw [rd_E, h2, rd_n_f _ _ h, rd_M_f h, rd_e_f h]
theorem rd_Z_f {c : Nat → Nat} {n : Nat} {q : Bool × Nat} (h : q.1 = false) : rd_Z c n q = q := by
  have h2 : rd_tk c n 0 3 q = q := (rd_G_tk c n 0 3).2 q h
  rw [rd_Z, h2, (rd_G_it (rd_G_g c n) _).2 q h, rd_E_f h]
theorem rd_Y_f {c : Nat → Nat} {n : Nat} {q : Bool × Nat} (h : q.1 = false) : rd_Y c n q = q := by
  have h2 : rd_tk c n 0 4 q = q := (rd_G_tk c n 0 4).2 q h
  rw [rd_Y, h2, (rd_G_it (rd_G_F c n) _).2 q h, rd_Z_f h]
theorem rd_X_f {c : Nat → Nat} {n : Nat} {q : Bool × Nat} (h : q.1 = false) : rd_X c n q = q := by
  have h2 : rd_tk c n 0 3 q = q := (rd_G_tk c n 0 3).2 q h
  rw [rd_X, h2, (rd_G_it (rd_G_J c n) _).2 q h, rd_Y_f h]
theorem xr_Pa_ex (Pa : Nat → Int32) : ∃ P, xr_Pa Pa P := by
  refine ⟨fun i => (Pa (280 + i)).toBitVec.toNat, fun i _ => ?_⟩
  apply Int32.toBitVec_inj.mp
  apply BitVec.eq_of_toNat_eq
  exact (pk_tn (Pa (280 + i)).toBitVec.isLt).symm
section
variable {u : SX} {c : Nat → Nat} {n s : Nat}
theorem xl_read {post : Int32 → SX → Prop} (C : cx_ok u c n) (hs : s < 2)
    (hbad : (rd_V c n).1 = false → ∀ fc F P A, xr_fr 44 66 (gx_facts u) F → xr_fr 280 420 (gx_partner u) P → post 1 (xl u (nI (rd_V c n).2) (nI (rd_V c n).2) fc (gx_kindCount u) F P A (gx_frameHeight u) (gx_frameResult u) (gx_frameDead u) (gx_kinds u)))
    (hok : (rd_V c n).1 = true → ∀ fc F P A Pn, xr_fr 44 66 (gx_facts u) F → xr_fr 280 420 (gx_partner u) P → xf_ok 44 c n F → xr_Pa P (m_P c n Pn) → wX_load_61 post (nI s) 1 (gx_byteCount u) (gx_wrongPlace u) (nI n) fc (gx_kindCount u) (gx_valueCount u) (gx_activeCount u) (gx_goesOn u) (gx_outcome u) (gx_resultValue u) (gx_trapPlace u) (gx_fuelUsed u) (gx_firstWaiting u) (gx_waitingCount u) (gx_printCount u) (gx_code u) F P (gx_loaded u) (gx_globals u) (gx_memories u) A (gx_frameHeight u) (gx_frameResult u) (gx_frameDead u) (gx_kinds u) (gx_values u) (gx_variables u) (gx_activeSlot u) (gx_activeGives u) (gx_activeFrame u) (gx_activeResume u) (gx_waiting u) (gx_prints u)) : wpX_load post u (nI s) := by
  have h140 := C.2.1
  unfold wpX_load
  have hsl : s = 0 ∨ s = 1 := by omega
  have key : wpX_readTypes (fun r u => (r = 0 → wX_load_60 post (nI s) (gx_byteCount u) (gx_wrongPlace u) (gx_at u) (gx_frameCount u) (gx_kindCount u) (gx_valueCount u) (gx_activeCount u) (gx_goesOn u) (gx_outcome u) (gx_resultValue u) (gx_trapPlace u) (gx_fuelUsed u) (gx_firstWaiting u) (gx_waitingCount u) (gx_printCount u) (gx_code u) (gx_facts u) (gx_partner u) (gx_loaded u) (gx_globals u) (gx_memories u) (gx_frameAt u) (gx_frameHeight u) (gx_frameResult u) (gx_frameDead u) (gx_kinds u) (gx_values u) (gx_variables u) (gx_activeSlot u) (gx_activeGives u) (gx_activeFrame u) (gx_activeResume u) (gx_waiting u) (gx_prints u)) ∧ (¬ r = 0 → wpX_readImports (fun r u => (r = 0 → wX_load_60 post (nI s) (gx_byteCount u) (gx_wrongPlace u) (gx_at u) (gx_frameCount u) (gx_kindCount u) (gx_valueCount u) (gx_activeCount u) (gx_goesOn u) (gx_outcome u) (gx_resultValue u) (gx_trapPlace u) (gx_fuelUsed u) (gx_firstWaiting u) (gx_waitingCount u) (gx_printCount u) (gx_code u) (gx_facts u) (gx_partner u) (gx_loaded u) (gx_globals u) (gx_memories u) (gx_frameAt u) (gx_frameHeight u) (gx_frameResult u) (gx_frameDead u) (gx_kinds u) (gx_values u) (gx_variables u) (gx_activeSlot u) (gx_activeGives u) (gx_activeFrame u) (gx_activeResume u) (gx_waiting u) (gx_prints u)) ∧ (¬ r = 0 → wpX_readFunctions (fun r u => (r = 0 → wX_load_60 post (nI s) (gx_byteCount u) (gx_wrongPlace u) (gx_at u) (gx_frameCount u) (gx_kindCount u) (gx_valueCount u) (gx_activeCount u) (gx_goesOn u) (gx_outcome u) (gx_resultValue u) (gx_trapPlace u) (gx_fuelUsed u) (gx_firstWaiting u) (gx_waitingCount u) (gx_printCount u) (gx_code u) (gx_facts u) (gx_partner u) (gx_loaded u) (gx_globals u) (gx_memories u) (gx_frameAt u) (gx_frameHeight u) (gx_frameResult u) (gx_frameDead u) (gx_kinds u) (gx_values u) (gx_variables u) (gx_activeSlot u) (gx_activeGives u) (gx_activeFrame u) (gx_activeResume u) (gx_waiting u) (gx_prints u)) ∧ (¬ r = 0 → wpX_readGlobals (fun r u => (r = 0 → wX_load_60 post (nI s) (gx_byteCount u) (gx_wrongPlace u) (gx_at u) (gx_frameCount u) (gx_kindCount u) (gx_valueCount u) (gx_activeCount u) (gx_goesOn u) (gx_outcome u) (gx_resultValue u) (gx_trapPlace u) (gx_fuelUsed u) (gx_firstWaiting u) (gx_waitingCount u) (gx_printCount u) (gx_code u) (gx_facts u) (gx_partner u) (gx_loaded u) (gx_globals u) (gx_memories u) (gx_frameAt u) (gx_frameHeight u) (gx_frameResult u) (gx_frameDead u) (gx_kinds u) (gx_values u) (gx_variables u) (gx_activeSlot u) (gx_activeGives u) (gx_activeFrame u) (gx_activeResume u) (gx_waiting u) (gx_prints u)) ∧ (¬ r = 0 → wpX_readEntries (fun r u => (r = 0 → wX_load_60 post (nI s) (gx_byteCount u) (gx_wrongPlace u) (gx_at u) (gx_frameCount u) (gx_kindCount u) (gx_valueCount u) (gx_activeCount u) (gx_goesOn u) (gx_outcome u) (gx_resultValue u) (gx_trapPlace u) (gx_fuelUsed u) (gx_firstWaiting u) (gx_waitingCount u) (gx_printCount u) (gx_code u) (gx_facts u) (gx_partner u) (gx_loaded u) (gx_globals u) (gx_memories u) (gx_frameAt u) (gx_frameHeight u) (gx_frameResult u) (gx_frameDead u) (gx_kinds u) (gx_values u) (gx_variables u) (gx_activeSlot u) (gx_activeGives u) (gx_activeFrame u) (gx_activeResume u) (gx_waiting u) (gx_prints u)) ∧ (¬ r = 0 → wpX_readMemory (fun r u => (r = 0 → wX_load_60 post (nI s) (gx_byteCount u) (gx_wrongPlace u) (gx_at u) (gx_frameCount u) (gx_kindCount u) (gx_valueCount u) (gx_activeCount u) (gx_goesOn u) (gx_outcome u) (gx_resultValue u) (gx_trapPlace u) (gx_fuelUsed u) (gx_firstWaiting u) (gx_waitingCount u) (gx_printCount u) (gx_code u) (gx_facts u) (gx_partner u) (gx_loaded u) (gx_globals u) (gx_memories u) (gx_frameAt u) (gx_frameHeight u) (gx_frameResult u) (gx_frameDead u) (gx_kinds u) (gx_values u) (gx_variables u) (gx_activeSlot u) (gx_activeGives u) (gx_activeFrame u) (gx_activeResume u) (gx_waiting u) (gx_prints u)) ∧ (¬ r = 0 → wX_load_61 post (nI s) 1 (gx_byteCount u) (gx_wrongPlace u) (gx_at u) (gx_frameCount u) (gx_kindCount u) (gx_valueCount u) (gx_activeCount u) (gx_goesOn u) (gx_outcome u) (gx_resultValue u) (gx_trapPlace u) (gx_fuelUsed u) (gx_firstWaiting u) (gx_waitingCount u) (gx_printCount u) (gx_code u) (gx_facts u) (gx_partner u) (gx_loaded u) (gx_globals u) (gx_memories u) (gx_frameAt u) (gx_frameHeight u) (gx_frameResult u) (gx_frameDead u) (gx_kinds u) (gx_values u) (gx_variables u) (gx_activeSlot u) (gx_activeGives u) (gx_activeFrame u) (gx_activeResume u) (gx_waiting u) (gx_prints u))) u)) u)) u)) u)) u)) (xr u (nI 0) (gx_frameCount u) (gx_facts u) (gx_partner u) (gx_frameAt u)) := by
    have hstop : ∀ q, rd_V c n = q → q.1 = false → ∀ fc F P A, xr_fr 44 66 (gx_facts u) F → xr_fr 280 420 (gx_partner u) P → wX_load_60 post (nI s) (gx_byteCount u) (gx_wrongPlace u) (nI q.2) fc (gx_kindCount u) (gx_valueCount u) (gx_activeCount u) (gx_goesOn u) (gx_outcome u) (gx_resultValue u) (gx_trapPlace u) (gx_fuelUsed u) (gx_firstWaiting u) (gx_waitingCount u) (gx_printCount u) (gx_code u) F P (gx_loaded u) (gx_globals u) (gx_memories u) A (gx_frameHeight u) (gx_frameResult u) (gx_frameDead u) (gx_kinds u) (gx_values u) (gx_variables u) (gx_activeSlot u) (gx_activeGives u) (gx_activeFrame u) (gx_activeResume u) (gx_waiting u) (gx_prints u) := by
      intro q e1 e2 fc F P A f1 f2
      have := hbad (by rw [e1]; exact e2) fc F P A f1 f2
      rw [e1] at this
      exact br_t rfl this
    obtain ⟨P0, hP0⟩ := xr_Pa_ex (gx_partner u)
    refine xr_types C (by omega) (fun F1 a1 a2 => ?_)
    have gT := ((rd_G_it (rd_G_T c n) (rd_tv c n 0 4 (true, 0))).1 _ ((rd_G_tk c n 0 4).1 (true, 0) (by dsimp only; omega)).2).2
    have fr1 : xr_fr 44 66 (gx_facts u) F1 := fun j hj => a1 j (by omega) (by omega)
    have eV : rd_V c n = rd_X c n (rd_it (rd_T c n) (rd_tv c n 0 4 (true, 0)) (rd_tk c n 0 4 (true, 0))) := rfl
    generalize eqT : rd_it (rd_T c n) (rd_tv c n 0 4 (true, 0)) (rd_tk c n 0 4 (true, 0)) = qT at a2 gT eV
    refine bb_br (fun z => hstop qT (by rw [eV, rd_X_f z]) z _ F1 _ _ fr1 xr_fr_r) (fun z => ?_)
    have hp1 : 0 < qT.2 := by
      rw [← eqT] at z ⊢
      obtain ⟨b1, b2, _⟩ := rd_tk_ok (rd_G_tr (rd_G_it (rd_G_T c n) _) z)
      rw [b2]
      have := (rd_G_it (rd_G_T c n) (rd_tv c n 0 4 (true, 0))).1 (true, (true, 0).2 + 1) (by
        have := ((rd_G_tk c n 0 4).1 (true, 0) (by dsimp only; omega)).2
        rw [b2] at this; exact this)
      dsimp only at this ⊢; omega
    obtain ⟨p1, rfl⟩ : ∃ p1, qT = (true, p1) := ⟨qT.2, tt_eq z⟩
    refine xr_imports C gT (fun F2 b1 b2 => ?_)
    have gI := ((rd_G_it (rd_G_J c n) (rd_tv c n 0 3 (true, p1))).1 _ ((rd_G_tk c n 0 3).1 (true, p1) gT).2)
    have gI0 := ((rd_G_tk c n 0 3).1 (true, p1) gT).1
    have fr2 : xr_fr 44 66 (gx_facts u) F2 := fun j hj => (b1 j (by omega) (by omega)).trans (fr1 j hj)
    have eV2 : rd_V c n = rd_Y c n (rd_it (rd_J c n) (rd_tv c n 0 3 (true, p1)) (rd_tk c n 0 3 (true, p1))) := eV
    have hvI := (rd_tv_le (c := c) (n := n) (lo := 0) (hi := 3) (q := (true, p1)) (by omega)).2
    generalize eqI : rd_it (rd_J c n) (rd_tv c n 0 3 (true, p1)) (rd_tk c n 0 3 (true, p1)) = qI at b2 gI eV2
    refine bb_br (fun z2 => hstop qI (by rw [eV2, rd_Y_f z2]) z2 _ F2 _ _ fr2 xr_fr_r) (fun z2 => ?_)
    obtain ⟨p2, rfl⟩ : ∃ p2, qI = (true, p2) := ⟨qI.2, tt_eq z2⟩
    dsimp only at gI gI0 hp1
    obtain ⟨c1, c2⟩ := b2 rfl
    refine xr_functions C gI.2 (by omega) hP0 (rd_tv c n 0 3 (true, p1)) hvI c1 (fun F3 Pa A3 fc3 d1 d2 d3 => ?_)
    have gF := ((rd_G_it (rd_G_F c n) (rd_tv c n 0 4 (true, p2))).1 _ ((rd_G_tk c n 0 4).1 (true, p2) gI.2).2).2
    have fr3 : xr_fr 44 66 (gx_facts u) F3 := fun j hj => (d1 j (by omega) (by omega)).trans (fr2 j hj)
    have eV3 : rd_V c n = rd_Z c n (rd_it (rd_F c n) (rd_tv c n 0 4 (true, p2)) (rd_tk c n 0 4 (true, p2))) := eV2
    generalize eqF : rd_it (rd_F c n) (rd_tv c n 0 4 (true, p2)) (rd_tk c n 0 4 (true, p2)) = qF at d3 gF eV3
    refine bb_br (fun z3 => hstop qF (by rw [eV3, rd_Z_f z3]) z3 _ F3 _ _ fr3 d2) (fun z3 => ?_)
    obtain ⟨p3, rfl⟩ : ∃ p3, qF = (true, p3) := ⟨qF.2, tt_eq z3⟩
    refine xr_globals C gF (fun F4 e1 e2 => ?_)
    have gG := ((rd_G_it (rd_G_g c n) (rd_tv c n 0 3 (true, p3))).1 _ ((rd_G_tk c n 0 3).1 (true, p3) gF).2).2
    have fr4 : xr_fr 44 66 (gx_facts u) F4 := fun j hj => (e1 j (by omega) (by omega)).trans (fr3 j hj)
    have eV4 : rd_V c n = rd_E c n (rd_it (rd_g c n) (rd_tv c n 0 3 (true, p3)) (rd_tk c n 0 3 (true, p3))) := eV3
    generalize eqG : rd_it (rd_g c n) (rd_tv c n 0 3 (true, p3)) (rd_tk c n 0 3 (true, p3)) = qG at e2 gG eV4
    refine bb_br (fun z4 => hstop qG (by rw [eV4, rd_E_f z4]) z4 _ F4 _ _ fr4 d2) (fun z4 => ?_)
    obtain ⟨p4, rfl⟩ : ∃ p4, qG = (true, p4) := ⟨qG.2, tt_eq z4⟩
    refine xr_entries C gG (fun F5 g1 g2 => ?_)
    have gE := ((rd_G_n c n 0 255 (rd_tv c n 0 5 (true, p4))).1 _ ((rd_G_tk c n 0 5).1 (true, p4) gG).2).2
    have fr5 : xr_fr 44 66 (gx_facts u) F5 := fun j hj => (g1 j (by omega) (by omega)).trans (fr4 j hj)
    have eV5 : rd_V c n = rd_e n (rd_M c n (rd_n c n 0 255 (rd_tv c n 0 5 (true, p4)) (rd_tk c n 0 5 (true, p4)))) := eV4
    generalize eqE : rd_n c n 0 255 (rd_tv c n 0 5 (true, p4)) (rd_tk c n 0 5 (true, p4)) = qE at g2 gE eV5
    refine bb_br (fun z5 => hstop qE (by rw [eV5, rd_M_f z5, rd_e_f z5]) z5 _ F5 _ _ fr5 d2) (fun z5 => ?_)
    obtain ⟨p5, rfl⟩ : ∃ p5, qE = (true, p5) := ⟨qE.2, tt_eq z5⟩
    refine xr_memory C gE (fun F6 k1 k2 => ?_)
    have fr6 : xr_fr 44 66 (gx_facts u) F6 := fun j hj => (k1 j (by omega) (by omega)).trans (fr5 j hj)
    have gM : (rd_M c n (true, p5)).2 ≤ n := by
      have t1 := (rd_G_tk c n 0 1).1 (true, p5) gE
      unfold rd_M
      split
      · exact ((rd_G_it (rd_G_D c n) _).1 _ ((rd_G_tk c n 0 2).1 _ t1.2).2).2
      · exact t1.2
    refine bb_br (fun z6 => hstop (rd_M c n (true, p5)) (by rw [eV5, rd_e_f z6]) z6 _ F6 _ _ fr6 d2) (fun z6 => ?_)
    by_cases hn : (rd_M c n (true, p5)).2 < n
    · have eq : rd_V c n = (false, (rd_M c n (true, p5)).2) := by rw [eV5, rd_e, if_pos hn]
      have := hbad (by rw [eq]) fc3 F6 Pa A3 fr6 d2
      rw [eq] at this
      exact br_f (by decide) (br_f (fun y => by
        have y' : nI (rd_M c n (true, p5)).2 = nI n := y.trans C.1
        rw [nI_eq (by omega) (by omega)] at y'
        omega) this)
    · have eq : rd_V c n = rd_M c n (true, p5) := by rw [eV5, rd_e, if_neg hn]
      have en : (rd_M c n (true, p5)).2 = n := by omega
      rw [en]
      have ok : (rd_V c n).1 = true := by rw [eq]; exact z6
      obtain ⟨o1, o2, o3, o4⟩ := rd_V_ok ok
      have eT : m_pI c n = p1 := by
        rw [o1, o2] at eqT
        show (rd_it (rd_T c n) (c 0) (true, 1)).2 = p1
        rw [eqT]
      obtain ⟨q1, q2, q3, q4, q5⟩ := rd_X_ok (q := (true, p1)) (by rw [← eV]; exact ok)
      dsimp only at q2 q3 q4
      obtain ⟨r1, r2, r3, r4, r5⟩ := rd_Y_ok (q := (true, p2)) (by rw [← eV2]; exact ok)
      dsimp only at r2 r3 r4
      obtain ⟨t1, t2, t3, t4⟩ := rd_Z_ok (q := (true, p3)) (by rw [← eV3]; exact ok)
      dsimp only at t2 t3 t4
      have eI : m_I c n = c p1 := by rw [m_I, eT]
      rw [q2, q3] at eqI
      have eF : m_pF c n = p2 := by
        show (rd_it (rd_J c n) (m_I c n) (true, m_pI c n + 1)).2 = p2
        rw [eI, eT, eqI]
      have eNF : m_F c n = c p2 := by rw [m_F, eF]
      rw [r2, r3] at eqF
      have eG : m_pG c n = p3 := by
        show (rd_it (rd_F c n) (m_F c n) (true, m_pF c n + 1)).2 = p3
        rw [eNF, eF, eqF]
      rw [t2, t3] at eqG
      have eQ : tl_q c n (m_pG c n) = p4 := by
        show (rd_it (rd_g c n) (c (m_pG c n)) (true, m_pG c n + 1)).2 = p4
        rw [eG, eqG]
      obtain ⟨w1, w2, w3, w4⟩ := rd_n_ok _ _ (show (rd_n c n 0 255 (rd_tv c n 0 5 (true, p4)) (rd_tk c n 0 5 (true, p4))).1 = true by rw [eqE])
      obtain ⟨x1, x2, x3, x4, x5, x6⟩ := rd_tk_ok w1
      dsimp only at x2 x3 x4 x5
      rw [w2, x2, x3] at eqE
      have eM : tl_m c n (m_pG c n) = p5 := by
        have := congrArg Prod.snd eqE
        dsimp only at this
        rw [tl_m, eQ]; exact this
      obtain ⟨y1, y2, y3, y4, y5, y6⟩ := rd_tk_ok (show (rd_tk c n 0 1 (true, p5)).1 = true from by
        cases e : (rd_tk c n 0 1 (true, p5)).1 with
        | true => rfl
        | false =>
          have : rd_tv c n 0 1 (true, p5) = 0 := by
            unfold rd_tv; split
            · rename_i hc; rw [rd_tk, if_pos hc] at e; exact ff_t e.symm
            · rfl
          rw [rd_M, this, if_neg (by decide), e] at z6
          exact ff_t z6)
      dsimp only at y2 y3
      obtain ⟨aa1, aa2⟩ := a2 rfl
      obtain ⟨dd1, dd2, dd3⟩ := d3 rfl
      obtain ⟨ee1, ee2⟩ := e2 rfl
      obtain ⟨gg1, gg2⟩ := g2 rfl
      obtain ⟨kk1, kk2⟩ := k2 z6
      refine hok ok fc3 F6 Pa A3 P0 fr6 d2 ?_ ?_
      · refine ⟨?_, ?_, ?_, ?_, ?_, ?_, ?_, ?_, fun t ht => ?_, fun f hf => ?_, fun g hg => ?_⟩
        · rw [k1 44 (by omega) (by omega), g1 44 (by omega) (by omega), e1 44 (by omega) (by omega), d1 44 (by omega) (by omega), b1 44 (by omega) (by omega), aa1, o2]
        · rw [k1 45 (by omega) (by omega), g1 45 (by omega) (by omega), e1 45 (by omega) (by omega), d1 45 (by omega) (by omega), c1, q3, eI]
        · rw [k1 46 (by omega) (by omega), g1 46 (by omega) (by omega), e1 46 (by omega) (by omega), dd1, q3, r3, eI, eNF]
        · rw [k1 47 (by omega) (by omega), g1 47 (by omega) (by omega), ee1, t3, eG]
        · rw [k1 48 (by omega) (by omega), gg1, x3, eQ]
        · rw [kk1, y3, eM]
        · rw [k1 50 (by omega) (by omega), gg2, x2, eQ]
        · rw [kk2, y2, eM]
        · have := aa2 t (by rw [o2]; exact ht)
          rw [o1] at this
          rw [show 44 + 8 + t = 52 + t by omega, k1 _ (by omega) (by omega), g1 _ (by omega) (by omega), e1 _ (by omega) (by omega), d1 _ (by omega) (by omega), b1 _ (by omega) (by omega), this]
          rfl
        · rw [show 44 + 12 + f = 56 + f by omega, k1 _ (by omega) (by omega), g1 _ (by omega) (by omega), e1 _ (by omega) (by omega)]
          rw [m_fa]
          rw [eI, eNF] at hf
          by_cases hf2 : f < m_I c n
          · rw [if_pos hf2]
            rw [eI] at hf2
            have := c2 f (by rw [q3]; exact hf2)
            rw [q2] at this
            rw [d1 _ (by omega) (by rw [q3]; omega), this, m_im, eT]
          · rw [if_neg hf2]
            rw [eI] at hf2 ⊢
            have := dd3 (f - c p1) (by rw [r3]; omega)
            rw [q3, r2, show 56 + c p1 + (f - c p1) = 56 + f by omega] at this
            rw [this, m_fn, eF]
        · rw [eG] at hg ⊢
          have := ee2 g (by rw [t3]; exact hg)
          rw [t2] at this
          rw [show 44 + 19 + g = 63 + g by omega, k1 _ (by omega) (by omega), g1 _ (by omega) (by omega), this]
      · rw [r2, r3] at dd2
        rw [m_P, eNF, eF]
        exact dd2
  rcases hsl with rfl | rfl
  · exact br_t rfl (br_f (by decide) key)
  · exact br_f (by decide) (br_t rfl (br_f (by decide) key))
end
