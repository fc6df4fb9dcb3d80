def mx_c (CO : Nat → Int32) (m : Nat) (c : Nat → Nat) : Prop := (∀ i, i < 140 → CO (m * 140 + i) = nI (c i)) ∧ (∀ i, c i < 256) ∧ ∀ i, 140 ≤ i → c i = 0
section
variable {x_byteCount x_wrongPlace x_at x_frameCount x_kindCount x_valueCount x_activeCount x_goesOn x_outcome x_trapPlace x_fuelUsed x_firstWaiting x_waitingCount x_printCount : Int32} {x_resultValue : Int64} {x_code x_facts x_partner x_loaded x_memories x_frameAt x_frameHeight x_frameResult x_frameDead x_kinds x_activeSlot x_activeGives x_activeFrame x_activeResume x_waiting x_prints : Nat → Int32} {x_globals x_values x_variables : Nat → Int64}
variable {c : Nat → Nat} {n s : Nat}
theorem x_cp61 {post : SX → Prop} {CO PA : Nat → Int32} (hs : s < 2) : ∀ r i l (FA : Nat → Int32), i + r = 22 → r < l →
    (∀ FA', fr_i (s * 22) (s * 22 + 22) FA FA' → (∀ j, i ≤ j → j < 22 → FA' (s * 22 + j) = FA (44 + j)) → (∀ j, j < i → FA' (s * 22 + j) = FA (s * 22 + j)) → post (x_byteCount, x_wrongPlace, x_at, x_frameCount, x_kindCount, x_valueCount, x_activeCount, x_goesOn, x_outcome, x_resultValue, x_trapPlace, x_fuelUsed, x_firstWaiting, x_waitingCount, x_printCount, CO, FA', PA, x_loaded, x_globals, x_memories, x_frameAt, x_frameHeight, x_frameResult, x_frameDead, x_kinds, x_values, x_variables, x_activeSlot, x_activeGives, x_activeFrame, x_activeResume, x_waiting, x_prints)) →
    wX_copyDraft_61 post (nI s) x_byteCount x_wrongPlace x_at x_frameCount x_kindCount x_valueCount x_activeCount x_goesOn x_outcome x_resultValue x_trapPlace x_fuelUsed x_firstWaiting x_waitingCount x_printCount l (nI i) CO FA PA x_loaded x_globals x_memories x_frameAt x_frameHeight x_frameResult x_frameDead x_kinds x_values x_variables x_activeSlot x_activeGives x_activeFrame x_activeResume x_waiting x_prints := by
  intro r
  induction r with
  | zero =>
    intro i l FA hi hl h
    obtain ⟨l, rfl⟩ : ∃ j, l = j + 1 := ⟨l - 1, by omega⟩
    exact pk_le 22 i (fun _ => h FA (fun _ _ => rfl) (fun j a b => absurd a (by omega)) (fun _ _ => rfl)) (fun z => absurd z (by omega))
  | succ r ih =>
    intro i l FA hi hl h
    obtain ⟨l, rfl⟩ : ∃ j, l = j + 1 := ⟨l - 1, by omega⟩
    refine pk_le 22 i (fun z => absurd z (by omega)) (fun _ => ?_)
    have e1 : (44 : Int32) + nI i = nI (44 + i) := nI_add 44 i
    have e2 : nI s * 22 + nI i = nI (s * 22 + i) := by rw [show (22 : Int32) = nI 22 from rfl, pk_mul, nI_add]
    refine ⟨pk_in (44 + i) 66 (by omega) e1, pk_in (s * 22 + i) 66 (by omega) e2, nm_r (show upd FA (nI s * 22 + nI i).toNatClampNeg (FA ((44 : Int32) + nI i).toNatClampNeg) = upd FA (s * 22 + i) (FA (44 + i)) from by rw [pk_cl (s * 22 + i) e2, pk_cl (44 + i) e1]) (nm_r (nI_1 i) ?_)⟩
    refine ih (i + 1) l _ (by omega) (by omega) (fun FA' f1 f2 f3 => h FA' (fun j hj => (f1 j hj).trans (pk_un (by omega))) (fun j a b => ?_) (fun j a => (f3 j (by omega)).trans (pk_un (by omega))))
    by_cases hj : j = i
    · subst hj; rw [f3 j (by omega), pk_us]
    · rw [f2 j (by omega) b, pk_un (by omega)]
theorem x_copy {post : SX → Prop} (hs : s < 2)
    (h : ∀ CO FA PA, fr_i (s * 140) (s * 140 + 140) x_code CO → (∀ i, i < 140 → CO (s * 140 + i) = x_code (280 + i)) → fr_i (s * 140) (s * 140 + 140) x_partner PA → (∀ i, i < 140 → PA (s * 140 + i) = x_partner (280 + i)) → fr_i (s * 22) (s * 22 + 22) x_facts FA → (∀ i, i < 22 → FA (s * 22 + i) = x_facts (44 + i)) → post (x_byteCount, x_wrongPlace, x_at, x_frameCount, x_kindCount, x_valueCount, x_activeCount, x_goesOn, x_outcome, x_resultValue, x_trapPlace, x_fuelUsed, x_firstWaiting, x_waitingCount, x_printCount, CO, FA, PA, x_loaded, x_globals, x_memories, x_frameAt, x_frameHeight, x_frameResult, x_frameDead, x_kinds, x_values, x_variables, x_activeSlot, x_activeGives, x_activeFrame, x_activeResume, x_waiting, x_prints)) :
    wpX_copyDraft post (x_byteCount, x_wrongPlace, x_at, x_frameCount, x_kindCount, x_valueCount, x_activeCount, x_goesOn, x_outcome, x_resultValue, x_trapPlace, x_fuelUsed, x_firstWaiting, x_waitingCount, x_printCount, x_code, x_facts, x_partner, x_loaded, x_globals, x_memories, x_frameAt, x_frameHeight, x_frameResult, x_frameDead, x_kinds, x_values, x_variables, x_activeSlot, x_activeGives, x_activeFrame, x_activeResume, x_waiting, x_prints) (nI s) := by
  have key : ∀ r i l (CO PA : Nat → Int32), i + r = 140 → r < l →
      (∀ CO' PA', fr_i (s * 140) (s * 140 + 140) CO CO' → (∀ j, i ≤ j → j < 140 → CO' (s * 140 + j) = CO (280 + j)) → (∀ j, j < i → CO' (s * 140 + j) = CO (s * 140 + j)) → fr_i (s * 140) (s * 140 + 140) PA PA' → (∀ j, i ≤ j → j < 140 → PA' (s * 140 + j) = PA (280 + j)) → (∀ j, j < i → PA' (s * 140 + j) = PA (s * 140 + j)) →
        ∃ n61, wX_copyDraft_61 post (nI s) x_byteCount x_wrongPlace x_at x_frameCount x_kindCount x_valueCount x_activeCount x_goesOn x_outcome x_resultValue x_trapPlace x_fuelUsed x_firstWaiting x_waitingCount x_printCount n61 0 CO' x_facts PA' x_loaded x_globals x_memories x_frameAt x_frameHeight x_frameResult x_frameDead x_kinds x_values x_variables x_activeSlot x_activeGives x_activeFrame x_activeResume x_waiting x_prints) →
      wX_copyDraft_2 post (nI s) x_byteCount x_wrongPlace x_at x_frameCount x_kindCount x_valueCount x_activeCount x_goesOn x_outcome x_resultValue x_trapPlace x_fuelUsed x_firstWaiting x_waitingCount x_printCount l (nI i) CO x_facts PA x_loaded x_globals x_memories x_frameAt x_frameHeight x_frameResult x_frameDead x_kinds x_values x_variables x_activeSlot x_activeGives x_activeFrame x_activeResume x_waiting x_prints := by
    intro r
    induction r with
    | zero =>
      intro i l CO PA hi hl h
      obtain ⟨l, rfl⟩ : ∃ j, l = j + 1 := ⟨l - 1, by omega⟩
      exact pk_le 140 i (fun _ => h CO PA (fun _ _ => rfl) (fun j a b => absurd a (by omega)) (fun _ _ => rfl) (fun _ _ => rfl) (fun j a b => absurd a (by omega)) (fun _ _ => rfl)) (fun z => absurd z (by omega))
    | succ r ih =>
      intro i l CO PA hi hl h
      obtain ⟨l, rfl⟩ : ∃ j, l = j + 1 := ⟨l - 1, by omega⟩
      refine pk_le 140 i (fun z => absurd z (by omega)) (fun _ => ?_)
      have e1 : (280 : Int32) + nI i = nI (280 + i) := nI_add 280 i
      have e2 : nI s * 140 + nI i = nI (s * 140 + i) := by rw [show (140 : Int32) = nI 140 from rfl, pk_mul, nI_add]
      refine ⟨pk_in (280 + i) 420 (by omega) e1, pk_in (s * 140 + i) 420 (by omega) e2, nm_r (show upd CO (nI s * 140 + nI i).toNatClampNeg (CO ((280 : Int32) + nI i).toNatClampNeg) = upd CO (s * 140 + i) (CO (280 + i)) from by rw [pk_cl (s * 140 + i) e2, pk_cl (280 + i) e1]) ⟨pk_in (280 + i) 420 (by omega) e1, pk_in (s * 140 + i) 420 (by omega) e2, nm_r (show upd PA (nI s * 140 + nI i).toNatClampNeg (PA ((280 : Int32) + nI i).toNatClampNeg) = upd PA (s * 140 + i) (PA (280 + i)) from by rw [pk_cl (s * 140 + i) e2, pk_cl (280 + i) e1]) (nm_r (nI_1 i) ?_)⟩⟩
      refine ih (i + 1) l _ _ (by omega) (by omega) (fun CO' PA' f1 f2 f3 g1 g2 g3 => h CO' PA' (fun j hj => (f1 j hj).trans (pk_un (by omega))) (fun j a b => ?_) (fun j a => (f3 j (by omega)).trans (pk_un (by omega))) (fun j hj => (g1 j hj).trans (pk_un (by omega))) (fun j a b => ?_) (fun j a => (g3 j (by omega)).trans (pk_un (by omega))))
      · by_cases hj : j = i
        · subst hj; rw [f3 j (by omega), pk_us]
        · rw [f2 j (by omega) b, pk_un (by omega)]
      · by_cases hj : j = i
        · subst hj; rw [g3 j (by omega), pk_us]
        · rw [g2 j (by omega) b, pk_un (by omega)]
  refine ⟨141, key 140 0 141 x_code x_partner (by omega) (by omega) (fun CO PA f1 f2 _ g1 g2 _ => ⟨23, ?_⟩)⟩
  exact x_cp61 hs 22 0 23 x_facts (by omega) (by omega) (fun FA k1 k2 _ => h CO FA PA f1 (fun i hi => f2 i (by omega) hi) g1 (fun i hi => g2 i (by omega) hi) k1 (fun i hi => k2 i (by omega) hi))
theorem x_setG {post : SX → Prop} (hs : s < 2) (M : mx_c x_code s c) (Fx : xf_ok (s * 22) c n x_facts) (mp : mp_ok c n) (hn : n ≤ 140)
    (h : ∀ GL, fr_l (s * 3) (s * 3 + 3) x_globals GL → (∀ g, g < c (m_pG c n) → GL (s * 3 + g) = cv c (c (m_ga c n g)) 10 (m_ga c n g + 2) 0 0) → post (x_byteCount, x_wrongPlace, x_at, x_frameCount, x_kindCount, x_valueCount, x_activeCount, x_goesOn, x_outcome, x_resultValue, x_trapPlace, x_fuelUsed, x_firstWaiting, x_waitingCount, x_printCount, x_code, x_facts, x_partner, x_loaded, GL, x_memories, x_frameAt, x_frameHeight, x_frameResult, x_frameDead, x_kinds, x_values, x_variables, x_activeSlot, x_activeGives, x_activeFrame, x_activeResume, x_waiting, x_prints)) : wpX_setGlobals post (x_byteCount, x_wrongPlace, x_at, x_frameCount, x_kindCount, x_valueCount, x_activeCount, x_goesOn, x_outcome, x_resultValue, x_trapPlace, x_fuelUsed, x_firstWaiting, x_waitingCount, x_printCount, x_code, x_facts, x_partner, x_loaded, x_globals, x_memories, x_frameAt, x_frameHeight, x_frameResult, x_frameDead, x_kinds, x_values, x_variables, x_activeSlot, x_activeGives, x_activeFrame, x_activeResume, x_waiting, x_prints) (nI s) := by
  have hG := mp.2.2.2.2.2.2.1
  have key : ∀ r i l (GL : Nat → Int64), i + r = c (m_pG c n) → r < l →
      (∀ GL', fr_l (s * 3) (s * 3 + 3) GL GL' → (∀ j, i ≤ j → j < c (m_pG c n) → GL' (s * 3 + j) = cv c (c (m_ga c n j)) 10 (m_ga c n j + 2) 0 0) → (∀ j, j < i → GL' (s * 3 + j) = GL (s * 3 + j)) → post (x_byteCount, x_wrongPlace, x_at, x_frameCount, x_kindCount, x_valueCount, x_activeCount, x_goesOn, x_outcome, x_resultValue, x_trapPlace, x_fuelUsed, x_firstWaiting, x_waitingCount, x_printCount, x_code, x_facts, x_partner, x_loaded, GL', x_memories, x_frameAt, x_frameHeight, x_frameResult, x_frameDead, x_kinds, x_values, x_variables, x_activeSlot, x_activeGives, x_activeFrame, x_activeResume, x_waiting, x_prints)) →
      wX_setGlobals_9 post (nI s) (nI (c (m_pG c n))) x_byteCount x_wrongPlace x_at x_frameCount x_kindCount x_valueCount x_activeCount x_goesOn x_outcome x_resultValue x_trapPlace x_fuelUsed x_firstWaiting x_waitingCount x_printCount l (nI i) x_code x_facts x_partner x_loaded GL x_memories x_frameAt x_frameHeight x_frameResult x_frameDead x_kinds x_values x_variables x_activeSlot x_activeGives x_activeFrame x_activeResume x_waiting x_prints := by
    intro r
    induction r with
    | zero =>
      intro i l GL hi hl h
      obtain ⟨l, rfl⟩ : ∃ j, l = j + 1 := ⟨l - 1, by omega⟩
      exact pk_le (c (m_pG c n)) i (fun _ => h GL (fun _ _ => rfl) (fun j a b => absurd a (by omega)) (fun _ _ => rfl)) (fun z => absurd z (by omega))
    | succ r ih =>
      intro i l GL hi hl h
      obtain ⟨l, rfl⟩ : ∃ j, l = j + 1 := ⟨l - 1, by omega⟩
      obtain ⟨g1, g2, g3, g4, g5⟩ := mp.2.2.2.2.2.2.2.1 i (by omega)
      refine pk_le (c (m_pG c n)) i (fun z => absurd z (by omega)) (fun _ => ?_)
      refine eq_p (P := fun z => wpX_fact _ _ _ z) (show (19 : Int32) + nI i = nI (19 + i) from nI_add 19 i) ?_
      refine xx_fact (m := s) (w := 19 + i) (z := nI (m_ga c n i)) (by rw [show s * 22 + (19 + i) = s * 22 + 19 + i by omega]; exact Fx.2.2.2.2.2.2.2.2.2.2 i (by omega)) (by omega) (by omega) ?_
      refine xx_byte (u := (x_byteCount, x_wrongPlace, x_at, x_frameCount, x_kindCount, x_valueCount, x_activeCount, x_goesOn, x_outcome, x_resultValue, x_trapPlace, x_fuelUsed, x_firstWaiting, x_waitingCount, x_printCount, x_code, x_facts, x_partner, x_loaded, GL, x_memories, x_frameAt, x_frameHeight, x_frameResult, x_frameDead, x_kinds, x_values, x_variables, x_activeSlot, x_activeGives, x_activeFrame, x_activeResume, x_waiting, x_prints)) (m := s) M (by omega) (by omega) ?_
      refine eq_p (P := fun z => wpX_constAt _ _ _ z _) (show nI (m_ga c n i) + 2 = nI (m_ga c n i + 2) from nI_add _ 2) ?_
      refine xm_const (w := (x_byteCount, x_wrongPlace, x_at, x_frameCount, x_kindCount, x_valueCount, x_activeCount, x_goesOn, x_outcome, x_resultValue, x_trapPlace, x_fuelUsed, x_firstWaiting, x_waitingCount, x_printCount, x_code, x_facts, x_partner, x_loaded, GL, x_memories, x_frameAt, x_frameHeight, x_frameResult, x_frameDead, x_kinds, x_values, x_variables, x_activeSlot, x_activeGives, x_activeFrame, x_activeResume, x_waiting, x_prints)) (m := s) (by omega) M _ _ (by omega) (by omega) ?_ ?_
      · obtain ⟨j, hj, hj2⟩ := rd_C_ex _ _ g5
        exact ⟨j, by split at hj <;> omega, hj2⟩
      · have e2 : nI s * 3 + nI i = nI (s * 3 + i) := by rw [show (3 : Int32) = nI 3 from rfl, pk_mul, nI_add]
        refine ⟨pk_in (s * 3 + i) 6 (by omega) e2, nm_r (show vp_updL GL (nI s * 3 + nI i).toNatClampNeg _ = vp_updL GL (s * 3 + i) (cv c (c (m_ga c n i)) 10 (m_ga c n i + 2) 0 0) from by rw [pk_cl (s * 3 + i) e2]) (nm_r (nI_1 i) ?_)⟩
        refine ih (i + 1) l _ (by omega) (by omega) (fun GL' f1 f2 f3 => h GL' (fun j hj => (f1 j hj).trans (pk_uLn (by omega))) (fun j a b => ?_) (fun j a => (f3 j (by omega)).trans (pk_uLn (by omega))))
        by_cases hj : j = i
        · subst hj; rw [f3 j (by omega), pk_uLs]
        · exact f2 j (by omega) b
  unfold wpX_setGlobals
  refine xx_fact (m := s) (w := 3) (z := nI (c (m_pG c n))) (by exact Fx.2.2.2.1) (by omega) (by omega) ⟨c (m_pG c n) + 1, ?_⟩
  exact key (c (m_pG c n)) 0 _ x_globals (by omega) (by omega) (fun GL f1 f2 _ => h GL f1 (fun g hg => f2 g (by omega) hg))
theorem x_setM {post : SX → Prop} (hs : s < 2) (M : mx_c x_code s c) (Fx : xf_ok (s * 22) c n x_facts) (mp : mp_ok c n) (hn : n ≤ 140) (hD : c (tl_m c n (m_pG c n)) = 1 → c (tl_m c n (m_pG c n) + 1) ≤ 2 ∧ (rd_it (rd_D c n) (c (tl_m c n (m_pG c n) + 1)) (true, tl_m c n (m_pG c n) + 2)).1 = true)
    (h : ∀ ME, fr_i (s * 48) (s * 48 + 48) x_memories ME → (∀ j, j < 48 → ME (s * 48 + j) = nI (tl_mem c n (m_pG c n) j)) → post (x_byteCount, x_wrongPlace, x_at, x_frameCount, x_kindCount, x_valueCount, x_activeCount, x_goesOn, x_outcome, x_resultValue, x_trapPlace, x_fuelUsed, x_firstWaiting, x_waitingCount, x_printCount, x_code, x_facts, x_partner, x_loaded, x_globals, ME, x_frameAt, x_frameHeight, x_frameResult, x_frameDead, x_kinds, x_values, x_variables, x_activeSlot, x_activeGives, x_activeFrame, x_activeResume, x_waiting, x_prints)) : wpX_setMemory post (x_byteCount, x_wrongPlace, x_at, x_frameCount, x_kindCount, x_valueCount, x_activeCount, x_goesOn, x_outcome, x_resultValue, x_trapPlace, x_fuelUsed, x_firstWaiting, x_waitingCount, x_printCount, x_code, x_facts, x_partner, x_loaded, x_globals, x_memories, x_frameAt, x_frameHeight, x_frameResult, x_frameDead, x_kinds, x_values, x_variables, x_activeSlot, x_activeGives, x_activeFrame, x_activeResume, x_waiting, x_prints) (nI s) := by
  have hm1 : c (tl_m c n (m_pG c n)) ≤ 1 := mp.2.2.2.2.2.2.2.2.2.1
  have hMn : tl_m c n (m_pG c n) < n := mp.2.2.2.2.2.2.2.2.2.2
  have h256 := M.2.1
  have k91 : ∀ {J : Int32 → Int32 → (Nat → Int32) → (Nat → Int32) → (Nat → Int32) → (Nat → Int32) → (Nat → Int64) → (Nat → Int32) → (Nat → Int32) → (Nat → Int32) → (Nat → Int32) → (Nat → Int32) → (Nat → Int32) → (Nat → Int64) → (Nat → Int64) → (Nat → Int32) → (Nat → Int32) → (Nat → Int32) → (Nat → Int32) → (Nat → Int32) → (Nat → Int32) → Prop} (x4 : Int32) (p i5 off len : Nat), p < 400 → off < 256 → len < 256 → ∀ r i l (ME : Nat → Int32), i + r = len → r < l →
      (∀ ME', fr_i (s * 48) (s * 48 + 48) ME ME' → (∀ j, j < 48 → ME' (s * 48 + j) = if off + i ≤ j ∧ j < off + len then nI (c (p + 2 + (j - off))) else ME (s * 48 + j)) → J (nI (p + 2 + len)) (nI (i5 + 1)) x_code x_facts x_partner x_loaded x_globals ME' x_frameAt x_frameHeight x_frameResult x_frameDead x_kinds x_values x_variables x_activeSlot x_activeGives x_activeFrame x_activeResume x_waiting x_prints) →
      wX_setMemory_91 post J (nI s) (nI (s * 48)) (nI p) x4 (nI i5) (nI off) (nI len) x_byteCount x_wrongPlace x_at x_frameCount x_kindCount x_valueCount x_activeCount x_goesOn x_outcome x_resultValue x_trapPlace x_fuelUsed x_firstWaiting x_waitingCount x_printCount l (nI i) x_code x_facts x_partner x_loaded x_globals ME x_frameAt x_frameHeight x_frameResult x_frameDead x_kinds x_values x_variables x_activeSlot x_activeGives x_activeFrame x_activeResume x_waiting x_prints := by
    intro J x4 p i5 off len hp ho hl4
    have w137 : ∀ ME, J (nI (p + 2 + len)) (nI (i5 + 1)) x_code x_facts x_partner x_loaded x_globals ME x_frameAt x_frameHeight x_frameResult x_frameDead x_kinds x_values x_variables x_activeSlot x_activeGives x_activeFrame x_activeResume x_waiting x_prints → wX_setMemory_137 post J (nI s) (nI (s * 48)) (nI p) x4 (nI i5) (nI len) x_byteCount x_wrongPlace x_at x_frameCount x_kindCount x_valueCount x_activeCount x_goesOn x_outcome x_resultValue x_trapPlace x_fuelUsed x_firstWaiting x_waitingCount x_printCount x_code x_facts x_partner x_loaded x_globals ME x_frameAt x_frameHeight x_frameResult x_frameDead x_kinds x_values x_variables x_activeSlot x_activeGives x_activeFrame x_activeResume x_waiting x_prints := by
      intro ME q
      exact nm_r (show nI p + (2 + nI len) = nI (p + 2 + len) from by rw [show (2 : Int32) = nI 2 from rfl, nI_add, nI_add]; congr 1; omega) (nm_r (nI_1 i5) q)
    intro r
    induction r with
    | zero =>
      intro i l ME hi hl h
      obtain ⟨l, rfl⟩ : ∃ j, l = j + 1 := ⟨l - 1, by omega⟩
      refine pk_le len i (fun _ => w137 ME (h ME (fun _ _ => rfl) (fun j hj => ?_))) (fun z => absurd z (by omega))
      rw [if_neg (by omega)]
    | succ r ih =>
      intro i l ME hi hl h
      obtain ⟨l, rfl⟩ : ∃ j, l = j + 1 := ⟨l - 1, by omega⟩
      refine pk_le len i (fun z => absurd z (by omega)) (fun _ => pk_le 48 (off + i) (fun z => w137 ME (h ME (fun _ _ => rfl) (fun j hj => ?_))) (fun z => ?_) rfl (nI_add off i))
      · rw [if_neg (by omega)]
      · refine eq_p (P := fun z => wpX_byteAt _ _ _ z) (show (nI p + 2) + nI i = nI (p + 2 + i) from by rw [show (2 : Int32) = nI 2 from rfl, nI_add, nI_add]) ?_
        refine xx_byte (u := (x_byteCount, x_wrongPlace, x_at, x_frameCount, x_kindCount, x_valueCount, x_activeCount, x_goesOn, x_outcome, x_resultValue, x_trapPlace, x_fuelUsed, x_firstWaiting, x_waitingCount, x_printCount, x_code, x_facts, x_partner, x_loaded, x_globals, ME, x_frameAt, x_frameHeight, x_frameResult, x_frameDead, x_kinds, x_values, x_variables, x_activeSlot, x_activeGives, x_activeFrame, x_activeResume, x_waiting, x_prints)) (m := s) M (by omega) (by omega) ?_
        have e2 : (nI (s * 48) + nI off) + nI i = nI (s * 48 + off + i) := by rw [nI_add, nI_add]
        refine ⟨pk_in (s * 48 + off + i) 96 (by omega) e2, nm_r (show upd ME ((nI (s * 48) + nI off) + nI i).toNatClampNeg _ = upd ME (s * 48 + off + i) (nI (c (p + 2 + i))) from by rw [pk_cl (s * 48 + off + i) e2]) (nm_r (nI_1 i) ?_)⟩
        refine ih (i + 1) l _ (by omega) (by omega) (fun ME' f1 f2 => h ME' (fun j hj => (f1 j hj).trans (pk_un (by omega))) (fun j hj => ?_))
        rw [f2 j hj]
        by_cases hj2 : j = off + i
        · rw [if_neg (by omega), if_pos (by omega), show s * 48 + j = s * 48 + off + i by omega, pk_us, show p + 2 + (j - off) = p + 2 + i by omega]
        · rw [pk_un (by omega)]
          by_cases hj3 : off + (i + 1) ≤ j ∧ j < off + len
          · rw [if_pos hj3, if_pos (by omega)]
          · rw [if_neg hj3, if_neg (by omega)]
  have k63 : ∀ N r i l p (ME : Nat → Int32) (md : Nat → Nat), N ≤ 2 → i + r = N → r < l → p < 200 → (rd_it (rd_D c n) r (true, p)).1 = true → (∀ j, j < 48 → ME (s * 48 + j) = nI (md j)) →
      (∀ ME', fr_i (s * 48) (s * 48 + 48) ME ME' → (∀ j, j < 48 → ME' (s * 48 + j) = nI (md_k c n r (true, p) md j)) → post (x_byteCount, x_wrongPlace, x_at, x_frameCount, x_kindCount, x_valueCount, x_activeCount, x_goesOn, x_outcome, x_resultValue, x_trapPlace, x_fuelUsed, x_firstWaiting, x_waitingCount, x_printCount, x_code, x_facts, x_partner, x_loaded, x_globals, ME', x_frameAt, x_frameHeight, x_frameResult, x_frameDead, x_kinds, x_values, x_variables, x_activeSlot, x_activeGives, x_activeFrame, x_activeResume, x_waiting, x_prints)) →
      wX_setMemory_63 post (nI s) (nI (s * 48)) (nI N) x_byteCount x_wrongPlace x_at x_frameCount x_kindCount x_valueCount x_activeCount x_goesOn x_outcome x_resultValue x_trapPlace x_fuelUsed x_firstWaiting x_waitingCount x_printCount l (nI p) (nI i) x_code x_facts x_partner x_loaded x_globals ME x_frameAt x_frameHeight x_frameResult x_frameDead x_kinds x_values x_variables x_activeSlot x_activeGives x_activeFrame x_activeResume x_waiting x_prints := by
    intro N r
    induction r with
    | zero =>
      intro i l p ME md hN hi hl hp hok hM h
      obtain ⟨l, rfl⟩ : ∃ j, l = j + 1 := ⟨l - 1, by omega⟩
      exact pk_le N i (fun _ => h ME (fun _ _ => rfl) hM) (fun z => absurd z (by omega))
    | succ r ih =>
      intro i l p ME md hN hi hl hp hok hM h
      obtain ⟨l, rfl⟩ : ∃ j, l = j + 1 := ⟨l - 1, by omega⟩
      rw [rd_it] at hok
      have h1 := rd_G_tr (rd_G_it (rd_G_D c n) r) hok
      obtain ⟨a1, a2, a3, a4⟩ := rd_n_ok _ _ (show (rd_n c n 0 255 (rd_tv c n 0 8 (rd_tk c n 0 255 (true, p))) (rd_tk c n 0 8 (rd_tk c n 0 255 (true, p)))).1 = true from h1)
      obtain ⟨b1, b2, b3, b4, b5, b6⟩ := rd_tk_ok a1
      obtain ⟨d1, d2, d3, d4, d5, d6⟩ := rd_tk_ok b1
      rw [d2] at b2 b3 b5 b6
      dsimp only at b2 b3 b5 b6 d6
      have eD : rd_D c n (true, p) = (true, p + 2 + c (p + 1)) := by
        show rd_n c n 0 255 (rd_tv c n 0 8 (rd_tk c n 0 255 (true, p))) (rd_tk c n 0 8 (rd_tk c n 0 255 (true, p))) = _
        rw [a2, d2, b2, b3]
      have hle : p + 2 + c (p + 1) ≤ n := by
        have := a4 (by rw [d2, b2]; dsimp only; omega)
        rw [d2, b2, b3] at this
        exact this
      rw [eD] at hok
      refine pk_le N i (fun z => absurd z (by omega)) (fun _ => ?_)
      refine xx_byte (u := (x_byteCount, x_wrongPlace, x_at, x_frameCount, x_kindCount, x_valueCount, x_activeCount, x_goesOn, x_outcome, x_resultValue, x_trapPlace, x_fuelUsed, x_firstWaiting, x_waitingCount, x_printCount, x_code, x_facts, x_partner, x_loaded, x_globals, ME, x_frameAt, x_frameHeight, x_frameResult, x_frameDead, x_kinds, x_values, x_variables, x_activeSlot, x_activeGives, x_activeFrame, x_activeResume, x_waiting, x_prints)) (m := s) M (by omega) (by omega) ?_
      refine eq_p (P := fun z => wpX_byteAt _ _ _ z) (nI_1 p) ?_
      refine xx_byte (u := (x_byteCount, x_wrongPlace, x_at, x_frameCount, x_kindCount, x_valueCount, x_activeCount, x_goesOn, x_outcome, x_resultValue, x_trapPlace, x_fuelUsed, x_firstWaiting, x_waitingCount, x_printCount, x_code, x_facts, x_partner, x_loaded, x_globals, ME, x_frameAt, x_frameHeight, x_frameResult, x_frameDead, x_kinds, x_values, x_variables, x_activeSlot, x_activeGives, x_activeFrame, x_activeResume, x_waiting, x_prints)) (m := s) M (by omega) (by omega) ⟨c (p + 1) + 1, ?_⟩
      refine k91 (nI N) p i (c p) (c (p + 1)) (by omega) (h256 _) (h256 _) (c (p + 1)) 0 _ ME (Nat.zero_add _) (by omega) (fun ME' f1 f2 => ?_)
      refine ih (i + 1) l (p + 2 + c (p + 1)) ME' (md_w c p md) hN (by omega) (by omega) (by omega) hok (fun j hj => ?_) (fun ME2 g1 g2 => h ME2 (fun j hj => (g1 j hj).trans (f1 j hj)) (fun j hj => ?_))
      · rw [f2 j hj, md_w, Nat.add_zero]
        by_cases q : c p ≤ j ∧ j < c p + c (p + 1)
        · rw [if_pos q, if_pos q]
        · rw [if_neg q, if_neg q]; exact hM j hj
      · rw [g2 j hj, md_k, eD]
  have k7 : ∀ r i l (ME : Nat → Int32), i + r = 48 → r < l →
      (∀ ME', fr_i (s * 48) (s * 48 + 48) ME ME' → (∀ j, i ≤ j → j < 48 → ME' (s * 48 + j) = 0) → (∀ j, j < i → ME' (s * 48 + j) = ME (s * 48 + j)) → wX_setMemory_7 post (nI s) (nI (s * 48)) x_byteCount x_wrongPlace x_at x_frameCount x_kindCount x_valueCount x_activeCount x_goesOn x_outcome x_resultValue x_trapPlace x_fuelUsed x_firstWaiting x_waitingCount x_printCount 1 48 x_code x_facts x_partner x_loaded x_globals ME' x_frameAt x_frameHeight x_frameResult x_frameDead x_kinds x_values x_variables x_activeSlot x_activeGives x_activeFrame x_activeResume x_waiting x_prints) →
      wX_setMemory_7 post (nI s) (nI (s * 48)) x_byteCount x_wrongPlace x_at x_frameCount x_kindCount x_valueCount x_activeCount x_goesOn x_outcome x_resultValue x_trapPlace x_fuelUsed x_firstWaiting x_waitingCount x_printCount l (nI i) x_code x_facts x_partner x_loaded x_globals ME x_frameAt x_frameHeight x_frameResult x_frameDead x_kinds x_values x_variables x_activeSlot x_activeGives x_activeFrame x_activeResume x_waiting x_prints := by
    intro r
    induction r with
    | zero =>
      intro i l ME hi hl h
      obtain ⟨l, rfl⟩ : ∃ j, l = j + 1 := ⟨l - 1, by omega⟩
      have h' := h ME (fun _ _ => rfl) (fun j a b => absurd a (by omega)) (fun _ _ => rfl)
      have hi' : i = 48 := by omega
      subst hi'
      exact pk_le 48 48 (fun z => h'.1 (nI_le (a := 48) (b := 48) z (by decide))) (fun z => absurd z (by omega))
    | succ r ih =>
      intro i l ME hi hl h
      obtain ⟨l, rfl⟩ : ∃ j, l = j + 1 := ⟨l - 1, by omega⟩
      refine pk_le 48 i (fun z => absurd z (by omega)) (fun _ => ?_)
      have e : nI (s * 48) + nI i = nI (s * 48 + i) := nI_add _ _
      refine ⟨pk_in (s * 48 + i) 96 (by omega) e, nm_r (show upd ME (nI (s * 48) + nI i).toNatClampNeg 0 = upd ME (s * 48 + i) 0 from by rw [pk_cl (s * 48 + i) e]) (nm_r (nI_1 i) ?_)⟩
      refine ih (i + 1) l _ (by omega) (by omega) (fun ME' f1 f2 f3 => h ME' (fun j hj => (f1 j hj).trans (pk_un (by omega))) (fun j a b => ?_) (fun j a => (f3 j (by omega)).trans (pk_un (by omega))))
      by_cases hj : j = i
      · subst hj; rw [f3 j (by omega), pk_us]
      · exact f2 j (by omega) b
  refine nm_r (show nI s * 48 = nI (s * 48) from pk_mul s 48) ⟨49, ?_⟩
  refine k7 48 0 49 x_memories (by omega) (by omega) (fun ME f1 f2 _ => br_t (by decide) ?_)
  refine xx_fact (m := s) (w := 7) (z := nI (tl_m c n (m_pG c n) + 1)) (by exact Fx.2.2.2.2.2.2.2.1) (by omega) (by omega) ?_
  refine xx_fact (m := s) (w := 5) (z := nI (c (tl_m c n (m_pG c n)))) (by exact Fx.2.2.2.2.2.1) (by omega) (by omega) ?_
  refine pk_eq (c (tl_m c n (m_pG c n))) 0 (fun z => nm_r (nI_1 _) ⟨1, ?_⟩) (fun z => ?_)
  · refine k63 0 0 0 1 (tl_m c n (m_pG c n) + 1 + 1) ME (fun _ => 0) (by omega) (by omega) (by omega) (by omega) rfl (fun j hj => f2 j (by omega) hj) (fun ME' g1 g2 => h ME' (fun j hj => (g1 j hj).trans (f1 j hj)) (fun j hj => ?_))
    rw [g2 j hj, tl_mem, if_neg (by omega)]; rfl
  · have z1 : c (tl_m c n (m_pG c n)) = 1 := by omega
    obtain ⟨d1, d2⟩ := hD z1
    refine xx_byte (u := (x_byteCount, x_wrongPlace, x_at, x_frameCount, x_kindCount, x_valueCount, x_activeCount, x_goesOn, x_outcome, x_resultValue, x_trapPlace, x_fuelUsed, x_firstWaiting, x_waitingCount, x_printCount, x_code, x_facts, x_partner, x_loaded, x_globals, ME, x_frameAt, x_frameHeight, x_frameResult, x_frameDead, x_kinds, x_values, x_variables, x_activeSlot, x_activeGives, x_activeFrame, x_activeResume, x_waiting, x_prints)) (m := s) M (by omega) (by omega) (nm_r (nI_1 _) ⟨c (tl_m c n (m_pG c n) + 1) + 1, ?_⟩)
    refine k63 (c (tl_m c n (m_pG c n) + 1)) (c (tl_m c n (m_pG c n) + 1)) 0 _ (tl_m c n (m_pG c n) + 1 + 1) ME (fun _ => 0) d1 (Nat.zero_add _) (by omega) (by omega) d2 (fun j hj => f2 j (by omega) hj) (fun ME' g1 g2 => h ME' (fun j hj => (g1 j hj).trans (f1 j hj)) (fun j hj => ?_))
    rw [g2 j hj, tl_mem, if_pos z1]
end
