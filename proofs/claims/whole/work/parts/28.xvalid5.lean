section
variable {u : SX} {c : Nat → Nat} {n p : Nat} {WP a : Int32} {F Pa A FH FR FD KI : Nat → Int32} {S : vt_St}
theorem x_var {post : Int32 → SX → Prop} (M : mx_ok u 2 c) (Fx : xf_ok 44 c n F) (mp : mp_ok c n) (hn : n ≤ 140) (f op x : Nat) (hf1 : m_I c n ≤ f) (hf2 : f < m_I c n + m_F c n) (ht : c (m_fa c n f) < c 0) (hop : op = 15 ∨ op = 16 ∨ op = 17) (hx : x < 256) (hF : S.2.1 ≠ []) (hb : S.2.2 = false) (R : XV c S A FH FR FD KI)
    (hs : (vt_var c n f op x S).2.2 = false → ∀ KI, XV c (vt_var c n f op x S) A FH FR FD KI → post 1 (xl u WP a (nI (vt_var c n f op x S).2.1.length) (nI (vt_var c n f op x S).1.length) F Pa A FH FR FD KI))
    (hf : (vt_var c n f op x S).2.2 = true → ∀ kc KI, post 0 (xl u WP a (nI S.2.1.length) kc F Pa A FH FR FD KI)) : wpX_checkVariable post (xl u WP a (nI S.2.1.length) (nI S.1.length) F Pa A FH FR FD KI) (nI op) (nI f) (nI x) := by
  have hvk : vk c n f x ≤ 2 := by
    obtain ⟨f1, f2, f3⟩ := mp.2.2.2.2.2.1 f hf1 hf2
    obtain ⟨t1, t2⟩ := mp.2.1 _ ht
    unfold vk
    split
    · exact (t1.2.1 x (by assumption)).2
    · split
      · exact (f2 _ (by assumption)).2
      · omega
  unfold wpX_checkVariable
  refine xm_varKind (w := (xl u WP a (nI S.2.1.length) (nI S.1.length) F Pa A FH FR FD KI)) M Fx mp hn f x hf1 hf2 ht hx ?_
  refine pk_eq (vk c n f x) 0 (fun z => hf ?_ _ _) (fun z => ?_)
  · unfold vt_var
    rw [z, decide_eq_true rfl]
    rcases hop with rfl | rfl | rfl
    · rw [if_pos rfl]; exact fm_gv (vb_t S)
    · rw [if_neg (by decide), if_pos rfl]; exact fm_pl (vb_t S)
    · rw [if_neg (by decide), if_neg (by decide), if_pos rfl]; exact fm_gv (fm_pl (vb_t S))
  · unfold vt_var at hs hf
    rw [decide_eq_false z, vb_f] at hs hf
    have exk : xk (vk c n f x) = vk c n f x := if_neg z
    have gv : ∀ {post : Int32 → SX → Prop} (S1 : vt_St) KI, S1.2.2 = false → XV c S1 A FH FR FD KI → ((vt_gv (vk c n f x) S1).2.2 = false → ∀ KI, XV c (vt_gv (vk c n f x) S1) A FH FR FD KI → post 1 (xl u WP a (nI (vt_gv (vk c n f x) S1).2.1.length) (nI (vt_gv (vk c n f x) S1).1.length) F Pa A FH FR FD KI)) → ((vt_gv (vk c n f x) S1).2.2 = true → post 0 (xl u WP a (nI S1.2.1.length) (nI S1.1.length) F Pa A FH FR FD KI)) → wpX_give post (xl u WP a (nI S1.2.1.length) (nI S1.1.length) F Pa A FH FR FD KI) (nI (vk c n f x)) := by
      intro post S1 KI h1 h2 h3 h4
      have := x_gv (u := u) (WP := WP) (a := a) (F := F) (Pa := Pa) (post := post) (vk c n f x) hvk h1 h2 h3 h4
      rw [exk] at this
      exact this
    rcases hop with rfl | rfl | rfl
    · rw [if_pos rfl] at hs hf
      exact br_t rfl (gv S KI hb R (fun h1 KI R1 => ⟨bb_nar true, hs h1 KI R1⟩) (fun h1 => ⟨bb_nar false, hf h1 _ _⟩))
    · rw [if_neg (by decide), if_pos rfl] at hs hf
      exact br_f (by decide) (x_take1 _ (by omega) hvk hF hb R (fun h1 R1 => br_f (by decide) (br_t rfl (hs h1 KI R1))) (fun h1 kc => br_t rfl (hf h1 kc _)))
    · rw [if_neg (by decide), if_neg (by decide), if_pos rfl] at hs hf
      refine br_f (by decide) (x_take1 _ (by omega) hvk hF hb R (fun h1 R1 => br_f (by decide) (br_f (by decide) ?_)) (fun h1 kc => br_t rfl (hf (fm_gv h1) kc _)))
      refine gv _ KI h1 R1 (fun h2 KI R2 => br_f (by decide) (hs h2 KI R2)) (fun h2 => br_t rfl ?_)
      rw [fk_pl]; exact hf h2 _ _
theorem x_glob {post : Int32 → SX → Prop} (M : mx_ok u 2 c) (Fx : xf_ok 44 c n F) (mp : mp_ok c n) (hn : n ≤ 140) (f op x : Nat) (hop : op = 18 ∨ op = 19) (hx : x < 256) (hF : S.2.1 ≠ []) (hb : S.2.2 = false) (R : XV c S A FH FR FD KI)
    (hs : (vt_var c n f op x S).2.2 = false → ∀ KI, XV c (vt_var c n f op x S) A FH FR FD KI → post 1 (xl u WP a (nI (vt_var c n f op x S).2.1.length) (nI (vt_var c n f op x S).1.length) F Pa A FH FR FD KI))
    (hf : (vt_var c n f op x S).2.2 = true → ∀ kc KI, post 0 (xl u WP a (nI S.2.1.length) kc F Pa A FH FR FD KI)) : wpX_checkGlobal post (xl u WP a (nI S.2.1.length) (nI S.1.length) F Pa A FH FR FD KI) (nI op) (nI x) := by
  have hG := mp.2.2.2.2.2.2.1
  unfold vt_var at hs hf
  rw [if_neg (by omega), if_neg (by omega), if_neg (by omega)] at hs hf
  unfold wpX_checkGlobal
  refine xx_fact (m := 2) (w := 3) (z := nI (c (m_pG c n))) (by exact Fx.2.2.2.1) (by omega) (by omega) ?_
  refine pk_lt x (c (m_pG c n)) (fun z => ?_) (fun z => ?_)
  · rw [if_pos z] at hs hf
    obtain ⟨g1, g2, g3, g4, g5⟩ := mp.2.2.2.2.2.2.2.1 x z
    refine eq_p (P := fun z => wpX_fact _ _ _ z) (show (19 : Int32) + nI x = nI (19 + x) from nI_add 19 x) ?_
    refine xx_fact (m := 2) (w := 19 + x) (z := nI (m_ga c n x)) (by rw [show 2 * 22 + (19 + x) = 44 + 19 + x by omega]; exact Fx.2.2.2.2.2.2.2.2.2.2 x z) (by omega) (by omega) ?_
    refine xx_byte (m := 2) M (by omega) (by omega) ?_
    have exk : xk (c (m_ga c n x)) = c (m_ga c n x) := if_neg (by omega)
    rcases hop with rfl | rfl
    · rw [if_pos rfl] at hs hf
      have := x_gv (u := u) (WP := WP) (a := a) (F := F) (Pa := Pa) (post := fun r u => narrow .boolean (.int r) = .int r ∧ post r u) (c (m_ga c n x)) g2 hb R (fun h1 KI R1 => ⟨bb_nar true, hs h1 KI R1⟩) (fun h1 => ⟨bb_nar false, hf h1 _ _⟩)
      rw [exk] at this
      exact br_t rfl this
    · rw [if_neg (by decide)] at hs hf
      refine br_f (by decide) ?_
      refine eq_p (P := fun z => wpX_byteAt _ _ _ z) (nI_1 (m_ga c n x)) ?_
      refine xx_byte (m := 2) M (by omega) (by omega) ?_
      refine pk_eq (c (m_ga c n x + 1)) 1 (fun y => ?_) (fun y => ?_)
      · rw [decide_eq_false (by omega), vb_f] at hs hf
        exact x_take1 _ g1 g2 hF hb R (fun h1 R1 => br_f (by decide) (hs h1 KI R1)) (fun h1 kc => br_t rfl (hf h1 kc _))
      · refine hf (fm_pl ?_) _ _
        rw [decide_eq_true (by omega)]; exact vb_t S
  · rw [if_neg (by omega)] at hs hf
    refine hf ?_ _ _
    split
    · exact fm_gv (vb_t S)
    · exact fm_pl (vb_t S)
theorem x_acc {post : Int32 → SX → Prop} (Fx : xf_ok 44 c n F) (mp : mp_ok c n) (op : Nat) (hop : 22 ≤ op) (hop2 : op < 28) (hF : S.2.1 ≠ []) (hb : S.2.2 = false) (R : XV c S A FH FR FD KI)
    (hs : (vt_mem c n op S).2.2 = false → ∀ KI, XV c (vt_mem c n op S) A FH FR FD KI → post 1 (xl u WP a (nI (vt_mem c n op S).2.1.length) (nI (vt_mem c n op S).1.length) F Pa A FH FR FD KI))
    (hf : (vt_mem c n op S).2.2 = true → ∀ kc KI, post 0 (xl u WP a (nI S.2.1.length) kc F Pa A FH FR FD KI)) : wpX_checkAccess post (xl u WP a (nI S.2.1.length) (nI S.1.length) F Pa A FH FR FD KI) (nI op) := by
  have hm1 : c (tl_m c n (m_pG c n)) ≤ 1 := mp.2.2.2.2.2.2.2.2.2.1
  unfold vt_mem at hs hf
  rw [if_neg (by omega)] at hs hf
  unfold wpX_checkAccess
  refine xx_fact (m := 2) (w := 5) (z := nI (c (tl_m c n (m_pG c n)))) (by exact Fx.2.2.2.2.2.1) (by omega) (by omega) ?_
  refine pk_eq (c (tl_m c n (m_pG c n))) 0 (fun z => hf ?_ _ _) (fun z => ?_)
  · rw [decide_eq_true z]
    split
    · exact fm_gv (fm_pl (vb_t S))
    · exact fm_pl (fm_pl (vb_t S))
  · rw [decide_eq_false z, vb_f] at hs hf
    have w28 : ∀ k, 1 ≤ k → k ≤ 2 → (op < 25 → (if op = 24 then 2 else 1) = k) → (25 ≤ op → (if op = 27 then 2 else 1) = k) → wX_checkAccess_28 post (nI op) (nI k) (gx_byteCount u) WP a (nI S.2.1.length) (nI S.1.length) (gx_valueCount u) (gx_activeCount u) (gx_goesOn u) (gx_outcome u) (gx_resultValue u) (gx_trapPlace u) (gx_fuelUsed u) (gx_firstWaiting u) (gx_waitingCount u) (gx_printCount u) (gx_code u) F Pa (gx_loaded u) (gx_globals u) (gx_memories u) A FH FR FD KI (gx_values u) (gx_variables u) (gx_activeSlot u) (gx_activeGives u) (gx_activeFrame u) (gx_activeResume u) (gx_waiting u) (gx_prints u) := by
      intro k hk1 hk2 e1 e2
      have exk : xk k = k := if_neg (by omega)
      refine pk_lt op 25 (fun y => ?_) (fun y => ?_)
      · rw [if_pos y, e1 y] at hs hf
        refine x_take1 1 (by omega) (by omega) hF hb R (fun h1 R1 => br_f (by decide) ?_) (fun h1 kc => br_t rfl (hf (fm_gv h1) kc _))
        have := x_gv (u := u) (WP := WP) (a := a) (F := F) (Pa := Pa) (post := fun r u => (r = 0 → post 0 u) ∧ (¬ r = 0 → post 1 u)) k hk2 h1 R1 (fun h2 KI R2 => br_f (by decide) (hs h2 KI R2)) (fun h2 => br_t rfl (by rw [fk_pl]; exact hf h2 _ _))
        rw [exk] at this
        exact this
      · rw [if_neg (by omega), e2 y] at hs hf
        refine x_take1 k hk1 hk2 hF hb R (fun h1 R1 => br_f (by decide) ?_) (fun h1 kc => br_t rfl (hf (fm_pl h1) kc _))
        refine x_take1 1 (by omega) (by omega) (by rw [fk_pl]; exact hF) h1 R1 (fun h2 R2 => br_f (by decide) (hs h2 KI R2)) (fun h2 kc => br_t rfl ?_)
        rw [fk_pl]; exact hf h2 kc _
    refine pk_eq op 24 (fun y => ?_) (fun y => pk_eq op 27 (fun y2 => ?_) (fun y2 => ?_))
    · exact w28 2 (by omega) (by omega) (fun _ => if_pos y) (fun q => absurd q (by omega))
    · exact w28 2 (by omega) (by omega) (fun q => absurd q (by omega)) (fun _ => if_pos y2)
    · exact w28 1 (by omega) (by omega) (fun _ => if_neg y) (fun _ => if_neg y2)
theorem x_numr {post : Int32 → SX → Prop} (op : Nat) (hop : 28 ≤ op) (hop2 : op ≤ 66) (hF : S.2.1 ≠ []) (hb : S.2.2 = false) (R : XV c S A FH FR FD KI)
    (hs : (vt_num op S).2.2 = false → ∀ KI, XV c (vt_num op S) A FH FR FD KI → post 1 (xl u WP a (nI (vt_num op S).2.1.length) (nI (vt_num op S).1.length) F Pa A FH FR FD KI))
    (hf : (vt_num op S).2.2 = true → ∀ kc KI, post 0 (xl u WP a (nI S.2.1.length) kc F Pa A FH FR FD KI)) : wpX_checkNumeric post (xl u WP a (nI S.2.1.length) (nI S.1.length) F Pa A FH FR FD KI) (nI op) := by
  unfold vt_num at hs hf
  have gv : ∀ (k : Nat) (S1 : vt_St) KI, 1 ≤ k → k ≤ 2 → S1.2.1 = S.2.1 → S1.2.2 = false → XV c S1 A FH FR FD KI → ((vt_gv k S1).2.2 = false → ∀ KI, XV c (vt_gv k S1) A FH FR FD KI → post 1 (xl u WP a (nI (vt_gv k S1).2.1.length) (nI (vt_gv k S1).1.length) F Pa A FH FR FD KI)) → ((vt_gv k S1).2.2 = true → ∀ kc KI, post 0 (xl u WP a (nI S.2.1.length) kc F Pa A FH FR FD KI)) → wpX_give (fun r u => (r = 0 → post 0 u) ∧ (¬ r = 0 → post 1 u)) (xl u WP a (nI S1.2.1.length) (nI S1.1.length) F Pa A FH FR FD KI) (nI k) := by
    intro k S1 KI hk1 hk eF h1 h2 h3 h4
    have := x_gv (u := u) (WP := WP) (a := a) (F := F) (Pa := Pa) (post := fun r u => (r = 0 → post 0 u) ∧ (¬ r = 0 → post 1 u)) k hk h1 h2 (fun q KI R2 => br_f (by decide) (h3 q KI R2)) (fun q => br_t rfl (by rw [eF]; exact h4 q _ _))
    rw [show xk k = k from if_neg (by omega)] at this
    exact this
  have w1 : ∀ k r, 1 ≤ k → k ≤ 2 → 1 ≤ r → r ≤ 2 → (op = 28 ∨ op = 46 ∨ 64 ≤ op) → (if 46 ≤ op ∧ op ≤ 64 then 2 else 1) = k → (if op < 52 then 1 else if op < 64 then 2 else if op = 64 then 1 else 2) = r → wpX_take (fun q u => (q = 0 → post 0 u) ∧ (¬ q = 0 → wpX_give (fun r u => (r = 0 → post 0 u) ∧ (¬ r = 0 → post 1 u)) u (nI r))) (xl u WP a (nI S.2.1.length) (nI S.1.length) F Pa A FH FR FD KI) (nI k) := by
    intro k r hk1 hk2 hr1 hr2 ho ek er
    rw [if_pos ho, ek, er] at hs hf
    refine x_take1 k hk1 hk2 hF hb R (fun h1 R1 => br_f (by decide) ?_) (fun h1 kc => br_t rfl (hf (fm_gv h1) kc _))
    exact gv r _ KI hr1 hr2 (fk_pl k S) h1 R1 hs hf
  refine pk_eq op 64 (fun z => ?_) (fun z => ?_)
  · exact w1 2 1 (by omega) (by omega) (by omega) (by omega) (by omega) (if_pos (by omega)) (by rw [if_neg (by omega), if_neg (by omega), if_pos z])
  · refine pk_le op 64 (fun z2 => ?_) (fun z2 => ?_)
    · -- the table of kinds
      have w81 : ∀ k pl, 1 ≤ k → k ≤ 2 → (if 46 ≤ op ∧ op ≤ 64 then 2 else 1) = k → pl + (if k = 2 then 18 else 0) = op → 28 ≤ pl → pl < 46 → wX_checkNumeric_81 post (nI k) (nI pl) (gx_byteCount u) WP a (nI S.2.1.length) (nI S.1.length) (gx_valueCount u) (gx_activeCount u) (gx_goesOn u) (gx_outcome u) (gx_resultValue u) (gx_trapPlace u) (gx_fuelUsed u) (gx_firstWaiting u) (gx_waitingCount u) (gx_printCount u) (gx_code u) F Pa (gx_loaded u) (gx_globals u) (gx_memories u) A FH FR FD KI (gx_values u) (gx_variables u) (gx_activeSlot u) (gx_activeGives u) (gx_activeFrame u) (gx_activeResume u) (gx_waiting u) (gx_prints u) := by
        intro k pl hk1 hk2 ek epl hp1 hp2
        refine pk_eq pl 28 (fun y => ?_) (fun y => ?_)
        · exact w1 k 1 hk1 hk2 (by omega) (by omega) (by split at epl <;> omega) ek (if_pos (by split at epl <;> omega))
        · have ho : ¬ (op = 28 ∨ op = 46 ∨ 64 ≤ op) := by
            split at ek <;> split at epl <;> omega
          rw [if_neg ho, ek] at hs hf
          refine x_take1 k hk1 hk2 hF hb R (fun h1 R1 => br_f (by decide) ?_) (fun h1 kc => br_t rfl (hf (fm_gv (fm_pl h1)) kc _))
          refine x_take1 k hk1 hk2 (by rw [fk_pl]; exact hF) h1 R1 (fun h2 R2 => br_f (by decide) ?_) (fun h2 kc => br_t rfl ?_)
          · have eF : (vt_pl k (vt_pl k S)).2.1 = S.2.1 := by rw [fk_pl, fk_pl]
            have e138 : ∀ r, 1 ≤ r → r ≤ 2 → (if op < 52 then 1 else if op < 64 then 2 else if op = 64 then 1 else 2) = r → wX_checkNumeric_138 post (nI r) (gx_byteCount u) WP a (nI (vt_pl k (vt_pl k S)).2.1.length) (nI (vt_pl k (vt_pl k S)).1.length) (gx_valueCount u) (gx_activeCount u) (gx_goesOn u) (gx_outcome u) (gx_resultValue u) (gx_trapPlace u) (gx_fuelUsed u) (gx_firstWaiting u) (gx_waitingCount u) (gx_printCount u) (gx_code u) F Pa (gx_loaded u) (gx_globals u) (gx_memories u) A FH FR FD KI (gx_values u) (gx_variables u) (gx_activeSlot u) (gx_activeGives u) (gx_activeFrame u) (gx_activeResume u) (gx_waiting u) (gx_prints u) := by
              intro r hr1 hr2 er
              rw [er] at hs hf
              unfold wX_checkNumeric_138
              exact gv r _ KI hr1 hr2 eF h2 R2 hs hf
            refine pk_le 34 pl (fun q => e138 k hk1 hk2 ?_) (fun q => e138 1 (by omega) (by omega) ?_)
            · have hk : k = 1 ∨ k = 2 := by omega
              rcases hk with rfl | rfl
              · rw [if_neg (by decide)] at epl
                rw [if_pos (by omega)]
              · rw [if_pos rfl] at epl
                rw [if_neg (by omega), if_pos (by omega)]
            · rw [if_pos (by split at epl <;> omega)]
          · rw [fk_pl]; exact hf (fm_gv h2) kc _
      refine pk_le 46 op (fun z3 => ?_) (fun z3 => ?_)
      · refine br_f (by decide) ?_
        have e18 : nI op - 18 = nI (op - 18) := pk_sub (b := 18) (by omega)
        show wX_checkNumeric_81 post 2 (nI op - 18) (gx_byteCount u) WP a (nI S.2.1.length) (nI S.1.length) (gx_valueCount u) (gx_activeCount u) (gx_goesOn u) (gx_outcome u) (gx_resultValue u) (gx_trapPlace u) (gx_fuelUsed u) (gx_firstWaiting u) (gx_waitingCount u) (gx_printCount u) (gx_code u) F Pa (gx_loaded u) (gx_globals u) (gx_memories u) A FH FR FD KI (gx_values u) (gx_variables u) (gx_activeSlot u) (gx_activeGives u) (gx_activeFrame u) (gx_activeResume u) (gx_waiting u) (gx_prints u)
        rw [e18]
        exact w81 2 (op - 18) (by omega) (by omega) (if_pos (by omega)) (by rw [if_pos rfl]; omega) (by omega) (by omega)
      · exact br_t rfl (w81 1 op (by omega) (by omega) (if_neg (by omega)) (by rw [if_neg (by decide), Nat.add_zero]) hop z3)
    · exact w1 1 2 (by omega) (by omega) (by omega) (by omega) (by omega) (if_neg (by omega)) (by rw [if_neg (by omega), if_neg (by omega), if_neg (by omega)])
theorem x_instr {post : Int32 → SX → Prop} {P : Nat → Nat} (M : mx_ok u 2 c) (hPa : xr_Pa Pa P) (Fx : xf_ok 44 c n F) (mp : mp_ok c n) (hn : n ≤ 140) (f : Nat) (hf1 : m_I c n ≤ f) (hf2 : f < m_I c n + m_F c n) (ht : c (m_fa c n f) < c 0)
    (ha : a = nI p) (hp : p < n) (h66 : c p ≤ 66) (h24 : 2 ≤ c p ∧ c p ≤ 4 → c (p + 1) ≤ 2) (h9 : c p = 9 → c (p + 1) ≤ 4)
    (hPo : c p = 6 → c (f_o S.2.1) = 4 → P (f_o S.2.1) < 140) (hE : c p = 6 → (c (f_o S.2.1) = 4 ∧ P (f_o S.2.1) = p ↔ f_c S.2.1 = 4)) (h54 : c p = 5 → f_c S.2.1 = 4) (hF : S.2.1 ≠ []) (hb : S.2.2 = false) (R : XV c S A FH FR FD KI)
    (hs : (v_st c n f p S).2.2 = false → ∀ kc A FH FR FD KI, ((v_st c n f p S).2.1 ≠ [] → kc = nI (v_st c n f p S).1.length ∧ XV c (v_st c n f p S) A FH FR FD KI) → post 1 (xl u WP a (nI (v_st c n f p S).2.1.length) kc F Pa A FH FR FD KI))
    (hf : (v_st c n f p S).2.2 = true → ∀ fc kc A FH FR FD KI, post 0 (xl u WP a fc kc F Pa A FH FR FD KI)) : wpX_checkInstruction post (xl u WP a (nI S.2.1.length) (nI S.1.length) F Pa A FH FR FD KI) (nI f) := by
  have h31 : c p < 2 ^ 31 := by omega
  have h256 := M.2.1
  unfold wpX_checkInstruction
  refine eq_p (P := fun z => wpX_byteAt _ _ _ z) ha ?_
  refine xx_byte (m := 2) M (by omega) (by omega) ?_
  refine eq_p (P := fun z => wpX_byteAt _ _ _ z) (show a + 1 = nI (p + 1) from by rw [ha, nI_1]) ?_
  refine xx_byte (m := 2) M (by omega) (by omega) ?_
  unfold v_st at hs hf
  have fin : ∀ S1 : vt_St, (S1.2.2 = false → ∀ kc A FH FR FD KI, (S1.2.1 ≠ [] → kc = nI S1.1.length ∧ XV c S1 A FH FR FD KI) → post 1 (xl u WP a (nI S1.2.1.length) kc F Pa A FH FR FD KI)) → (S1.2.2 = false → ∀ A FH FR FD KI, XV c S1 A FH FR FD KI → post 1 (xl u WP a (nI S1.2.1.length) (nI S1.1.length) F Pa A FH FR FD KI)) := by
    intro S1 h1 h2 A FH FR FD KI h3
    exact h1 h2 _ A FH FR FD KI (fun _ => ⟨rfl, h3⟩)
  have nb : ∀ r : Bool, ∀ U, post (bb_i r) U → narrow .boolean (.int (bb_i r)) = .int (bb_i r) ∧ post (bb_i r) U := fun r U h => ⟨bb_nar r, h⟩
  have k0 : c p = 0 → wpX_goDead (fun r u => narrow .boolean (.int r) = .int r ∧ post r u) (xl u WP a (nI S.2.1.length) (nI S.1.length) F Pa A FH FR FD KI) := by
    intro z; rw [if_pos z] at hs hf
    exact x_die hF R (fun FD R1 => nb true _ (fin _ hs hb _ _ _ _ _ R1))
  have k1 : c p = 1 → post 1 (xl u WP a (nI S.2.1.length) (nI S.1.length) F Pa A FH FR FD KI) := by
    intro z; rw [if_neg (by omega), if_pos z] at hs; exact fin _ hs hb _ _ _ _ _ R
  have k23 : c p = 2 ∨ c p = 3 → wX_checkInstruction_131 post (nI (c (p + 1))) (gx_byteCount u) WP a (nI S.2.1.length) (nI S.1.length) (gx_valueCount u) (gx_activeCount u) (gx_goesOn u) (gx_outcome u) (gx_resultValue u) (gx_trapPlace u) (gx_fuelUsed u) (gx_firstWaiting u) (gx_waitingCount u) (gx_printCount u) (gx_code u) F Pa (gx_loaded u) (gx_globals u) (gx_memories u) A FH FR FD KI (gx_values u) (gx_variables u) (gx_activeSlot u) (gx_activeGives u) (gx_activeFrame u) (gx_activeResume u) (gx_waiting u) (gx_prints u) := by
    intro z
    rw [if_neg (by omega), if_neg (by omega), if_pos z] at hs hf
    unfold wX_checkInstruction_131
    exact x_open (c p) (c (p + 1)) p (by omega) (h24 (by omega)) ha (by omega) (fun q => absurd q hF) (fun _ => by omega) hb R (fun h1 A FH FR FD R1 => nb true _ (fin _ hs h1 _ _ _ _ _ R1)) (fun h1 => nb false _ (hf h1 _ _ _ _ _ _ _))
  have k4 : c p = 4 → wpX_take (fun r u => (r = 0 → post 0 u) ∧ (¬ r = 0 → wpX_openChecked (fun r u => (r = 0 → post 0 u) ∧ (¬ r = 0 → post 1 u)) u (nI (c (p + 1))))) (xl u WP a (nI S.2.1.length) (nI S.1.length) F Pa A FH FR FD KI) 1 := by
    intro z
    rw [if_neg (by omega), if_neg (by omega), if_neg (by omega), if_pos z] at hs hf
    refine x_take1 1 (by omega) (by omega) hF hb R (fun h1 R1 => br_f (by decide) ?_) (fun h1 kc => br_t rfl (hf (fm_open h1) _ _ _ _ _ _ _))
    refine x_open 4 (c (p + 1)) p (by omega) (h24 (by omega)) ha (by omega) (fun q => absurd q (by rw [fk_pl]; exact hF)) (fun _ => by omega) h1 R1 (fun h2 A FH FR FD R2 => br_f (by decide) (fin _ hs h2 _ _ _ _ _ R2)) (fun h2 => br_t rfl (hf h2 _ _ _ _ _ _ _))
  have k56 : c p = 5 ∨ c p = 6 → wX_checkInstruction_159 post (nI (c p)) (gx_byteCount u) WP a (nI S.2.1.length) (nI S.1.length) (gx_valueCount u) (gx_activeCount u) (gx_goesOn u) (gx_outcome u) (gx_resultValue u) (gx_trapPlace u) (gx_fuelUsed u) (gx_firstWaiting u) (gx_waitingCount u) (gx_printCount u) (gx_code u) F Pa (gx_loaded u) (gx_globals u) (gx_memories u) A FH FR FD KI (gx_values u) (gx_variables u) (gx_activeSlot u) (gx_activeGives u) (gx_activeFrame u) (gx_activeResume u) (gx_waiting u) (gx_prints u) := by
    intro z
    rw [if_neg (by omega), if_neg (by omega), if_neg (by omega), if_neg (by omega), if_pos z] at hs hf
    unfold wX_checkInstruction_159
    exact x_end M hPa (c p) z ha (by omega) hPo hE h54 hF hb R (fun h1 kc FD KI h2 => nb true _ (hs h1 kc _ _ _ FD KI h2)) (fun h1 fc kc FD KI => nb false _ (hf h1 fc kc _ _ _ FD KI))
  have k7 : c p = 7 → wX_checkInstruction_165 post (nI (c p)) (nI (c (p + 1))) (gx_byteCount u) WP a (nI S.2.1.length) (nI S.1.length) (gx_valueCount u) (gx_activeCount u) (gx_goesOn u) (gx_outcome u) (gx_resultValue u) (gx_trapPlace u) (gx_fuelUsed u) (gx_firstWaiting u) (gx_waitingCount u) (gx_printCount u) (gx_code u) F Pa (gx_loaded u) (gx_globals u) (gx_memories u) A FH FR FD KI (gx_values u) (gx_variables u) (gx_activeSlot u) (gx_activeGives u) (gx_activeFrame u) (gx_activeResume u) (gx_waiting u) (gx_prints u) := by
    intro z
    rw [if_neg (by omega), if_neg (by omega), if_neg (by omega), if_neg (by omega), if_neg (by omega), if_pos z] at hs hf
    unfold wX_checkInstruction_165
    rw [z]
    exact x_br7 M _ (h256 _) hF hb R (fun h1 FD R1 => nb true _ (fin _ hs h1 _ _ _ _ _ R1)) (fun h1 kc => nb false _ (hf h1 _ _ _ _ _ _ _))
  have k8 : c p = 8 → wX_checkInstruction_165 post (nI (c p)) (nI (c (p + 1))) (gx_byteCount u) WP a (nI S.2.1.length) (nI S.1.length) (gx_valueCount u) (gx_activeCount u) (gx_goesOn u) (gx_outcome u) (gx_resultValue u) (gx_trapPlace u) (gx_fuelUsed u) (gx_firstWaiting u) (gx_waitingCount u) (gx_printCount u) (gx_code u) F Pa (gx_loaded u) (gx_globals u) (gx_memories u) A FH FR FD KI (gx_values u) (gx_variables u) (gx_activeSlot u) (gx_activeGives u) (gx_activeFrame u) (gx_activeResume u) (gx_waiting u) (gx_prints u) := by
    intro z
    rw [if_neg (by omega), if_neg (by omega), if_neg (by omega), if_neg (by omega), if_neg (by omega), if_neg (by omega), if_pos z] at hs hf
    unfold wX_checkInstruction_165
    rw [z]
    exact x_br8 M _ (h256 _) hF hb R (fun h1 KI R1 => nb true _ (fin _ hs h1 _ _ _ _ _ R1)) (fun h1 kc => nb false _ (hf h1 _ _ _ _ _ _ _))
  have k9 : c p = 9 → wpX_checkBranchTable (fun r u => narrow .boolean (.int r) = .int r ∧ post r u) (xl u WP a (nI S.2.1.length) (nI S.1.length) F Pa A FH FR FD KI) (nI (c (p + 1))) := by
    intro z
    rw [if_neg (by omega), if_neg (by omega), if_neg (by omega), if_neg (by omega), if_neg (by omega), if_neg (by omega), if_neg (by omega), if_pos z] at hs hf
    exact x_table M (h9 z) ha (by omega) hF hb R (fun h1 FD R1 => nb true _ (fin _ hs h1 _ _ _ _ _ R1)) (fun h1 kc => nb false _ (hf h1 _ _ _ _ _ _ _))
  have k10 : c p = 10 → wpX_take (fun r u => (r = 0 → post 0 u) ∧ (¬ r = 0 → wpX_goDead (fun r u => (r = 0 → post 0 u) ∧ (¬ r = 0 → post 1 u)) u)) (xl u WP a (nI S.2.1.length) (nI S.1.length) F Pa A FH FR FD KI) (FR 0) := by
    intro z
    rw [if_neg (by omega), if_neg (by omega), if_neg (by omega), if_neg (by omega), if_neg (by omega), if_neg (by omega), if_neg (by omega), if_neg (by omega), if_pos z] at hs hf
    rw [xv_bot _ hF R.2.1]
    refine x_take _ (sn_bot _ _ R.2.2.2.2.2) hF hb R (fun h1 R1 => br_f (by decide) ?_) (fun h1 kc => br_t rfl (hf (fm_die h1) _ _ _ _ _ _ _))
    exact x_die (by rw [fk_pr]; exact hF) R1 (fun FD R2 => br_f (by decide) (fin _ hs h1 _ _ _ _ _ R2))
  have k11 : c p = 11 ∨ c p = 12 → wX_checkInstruction_204 post (nI (c p)) (nI (c (p + 1))) (gx_byteCount u) WP a (nI S.2.1.length) (nI S.1.length) (gx_valueCount u) (gx_activeCount u) (gx_goesOn u) (gx_outcome u) (gx_resultValue u) (gx_trapPlace u) (gx_fuelUsed u) (gx_firstWaiting u) (gx_waitingCount u) (gx_printCount u) (gx_code u) F Pa (gx_loaded u) (gx_globals u) (gx_memories u) A FH FR FD KI (gx_values u) (gx_variables u) (gx_activeSlot u) (gx_activeGives u) (gx_activeFrame u) (gx_activeResume u) (gx_waiting u) (gx_prints u) := by
    intro z
    rw [if_neg (by omega), if_neg (by omega), if_neg (by omega), if_neg (by omega), if_neg (by omega), if_neg (by omega), if_neg (by omega), if_neg (by omega), if_neg (by omega), if_pos z] at hs hf
    unfold wX_checkInstruction_204
    exact x_call M Fx mp hn (c p) _ z (h256 _) hF hb R (fun h1 KI R1 => nb true _ (fin _ hs h1 _ _ _ _ _ R1)) (fun h1 kc KI => nb false _ (hf h1 _ _ _ _ _ _ _))
  have k13 : c p = 13 → wpX_takeTop (fun r u => (r = 0 → post 0 u) ∧ (¬ r = 0 → post 1 u)) (xl u WP a (nI S.2.1.length) (nI S.1.length) F Pa A FH FR FD KI) := by
    intro z
    rw [if_neg (by omega), if_neg (by omega), if_neg (by omega), if_neg (by omega), if_neg (by omega), if_neg (by omega), if_neg (by omega), if_neg (by omega), if_neg (by omega), if_neg (by omega), if_pos z] at hs hf
    refine x_top hF hb R (fun h1 R1 k1 => br_f (nI_ne0 ?_ ?_) (fin _ hs h1 _ _ _ _ _ R1)) (fun h1 _ => br_t rfl (hf h1 _ _ _ _ _ _ _))
    · unfold xk; split <;> omega
    · unfold xk; split <;> omega
  have k14 : c p = 14 → wpX_checkSelect (fun r u => narrow .boolean (.int r) = .int r ∧ post r u) (xl u WP a (nI S.2.1.length) (nI S.1.length) F Pa A FH FR FD KI) := by
    intro z
    rw [if_neg (by omega), if_neg (by omega), if_neg (by omega), if_neg (by omega), if_neg (by omega), if_neg (by omega), if_neg (by omega), if_neg (by omega), if_neg (by omega), if_neg (by omega), if_neg (by omega), if_pos z] at hs hf
    exact x_sel hF hb R (fun h1 KI R1 => nb true _ (fin _ hs h1 _ _ _ _ _ R1)) (fun h1 kc => nb false _ (hf h1 _ _ _ _ _ _ _))
  have k15 : 15 ≤ c p → c p ≤ 17 → wX_checkInstruction_229 post (nI f) (nI (c p)) (nI (c (p + 1))) (gx_byteCount u) WP a (nI S.2.1.length) (nI S.1.length) (gx_valueCount u) (gx_activeCount u) (gx_goesOn u) (gx_outcome u) (gx_resultValue u) (gx_trapPlace u) (gx_fuelUsed u) (gx_firstWaiting u) (gx_waitingCount u) (gx_printCount u) (gx_code u) F Pa (gx_loaded u) (gx_globals u) (gx_memories u) A FH FR FD KI (gx_values u) (gx_variables u) (gx_activeSlot u) (gx_activeGives u) (gx_activeFrame u) (gx_activeResume u) (gx_waiting u) (gx_prints u) := by
    intro z z2
    rw [if_neg (by omega), if_neg (by omega), if_neg (by omega), if_neg (by omega), if_neg (by omega), if_neg (by omega), if_neg (by omega), if_neg (by omega), if_neg (by omega), if_neg (by omega), if_neg (by omega), if_neg (by omega), if_pos (by omega)] at hs hf
    unfold wX_checkInstruction_229
    exact x_var M Fx mp hn f (c p) _ hf1 hf2 ht (by omega) (h256 _) hF hb R (fun h1 KI R1 => nb true _ (fin _ hs h1 _ _ _ _ _ R1)) (fun h1 kc KI => nb false _ (hf h1 _ _ _ _ _ _ _))
  have k18 : c p = 18 ∨ c p = 19 → wX_checkInstruction_237 post (nI (c p)) (nI (c (p + 1))) (gx_byteCount u) WP a (nI S.2.1.length) (nI S.1.length) (gx_valueCount u) (gx_activeCount u) (gx_goesOn u) (gx_outcome u) (gx_resultValue u) (gx_trapPlace u) (gx_fuelUsed u) (gx_firstWaiting u) (gx_waitingCount u) (gx_printCount u) (gx_code u) F Pa (gx_loaded u) (gx_globals u) (gx_memories u) A FH FR FD KI (gx_values u) (gx_variables u) (gx_activeSlot u) (gx_activeGives u) (gx_activeFrame u) (gx_activeResume u) (gx_waiting u) (gx_prints u) := by
    intro z
    rw [if_neg (by omega), if_neg (by omega), if_neg (by omega), if_neg (by omega), if_neg (by omega), if_neg (by omega), if_neg (by omega), if_neg (by omega), if_neg (by omega), if_neg (by omega), if_neg (by omega), if_neg (by omega), if_pos (by omega)] at hs hf
    unfold wX_checkInstruction_237
    exact x_glob M Fx mp hn f (c p) _ z (h256 _) hF hb R (fun h1 KI R1 => nb true _ (fin _ hs h1 _ _ _ _ _ R1)) (fun h1 kc KI => nb false _ (hf h1 _ _ _ _ _ _ _))
  have k20 : c p = 20 → wpX_give (fun r u => narrow .boolean (.int r) = .int r ∧ post r u) (xl u WP a (nI S.2.1.length) (nI S.1.length) F Pa A FH FR FD KI) 1 := by
    intro z
    rw [if_neg (by omega), if_neg (by omega), if_neg (by omega), if_neg (by omega), if_neg (by omega), if_neg (by omega), if_neg (by omega), if_neg (by omega), if_neg (by omega), if_neg (by omega), if_neg (by omega), if_neg (by omega), if_neg (by omega), if_pos (by omega)] at hs hf
    unfold vt_mem at hs hf
    rw [if_pos (by omega), z] at hs hf
    exact x_gv (S := S) 1 (by omega) hb R (fun h1 KI R1 => nb true _ (fin _ hs h1 _ _ _ _ _ R1)) (fun h1 => nb false _ (hf h1 _ _ _ _ _ _ _))
  have k21 : c p = 21 → wpX_give (fun r u => narrow .boolean (.int r) = .int r ∧ post r u) (xl u WP a (nI S.2.1.length) (nI S.1.length) F Pa A FH FR FD KI) 2 := by
    intro z
    rw [if_neg (by omega), if_neg (by omega), if_neg (by omega), if_neg (by omega), if_neg (by omega), if_neg (by omega), if_neg (by omega), if_neg (by omega), if_neg (by omega), if_neg (by omega), if_neg (by omega), if_neg (by omega), if_neg (by omega), if_pos (by omega)] at hs hf
    unfold vt_mem at hs hf
    rw [if_pos (by omega), z] at hs hf
    exact x_gv (S := S) 2 (by omega) hb R (fun h1 KI R1 => nb true _ (fin _ hs h1 _ _ _ _ _ R1)) (fun h1 => nb false _ (hf h1 _ _ _ _ _ _ _))
  refine pk_lt (c p) 0 (fun z => absurd z (by omega)) (fun _ => ?_)
  refine pk_lt 21 (c p) (fun b21 => ?_) (fun b99 => ?_)
  · rw [if_neg (by omega), if_neg (by omega), if_neg (by omega), if_neg (by omega), if_neg (by omega), if_neg (by omega), if_neg (by omega), if_neg (by omega), if_neg (by omega), if_neg (by omega), if_neg (by omega), if_neg (by omega), if_neg (by omega)] at hs hf
    refine pk_lt 27 (c p) (fun z2 => ?_) (fun z2 => ?_)
    · rw [if_neg (by omega)] at hs hf
      exact x_numr (c p) (by omega) h66 hF hb R (fun h1 KI R1 => nb true _ (fin _ hs h1 _ _ _ _ _ R1)) (fun h1 kc KI => nb false _ (hf h1 _ _ _ _ _ _ _))
    · rw [if_pos (by omega)] at hs hf
      exact x_acc Fx mp (c p) (by omega) (by omega) hF hb R (fun h1 KI R1 => nb true _ (fin _ hs h1 _ _ _ _ _ R1)) (fun h1 kc KI => nb false _ (hf h1 _ _ _ _ _ _ _))
  · exact pk_eq (c p) 0 (fun z => k0 z) (fun b0 => pk_eq (c p) 1 (fun z => k1 z) (fun b1 => pk_eq (c p) 2 (fun z => k23 (Or.inl z)) (fun b2 => pk_eq (c p) 3 (fun z => k23 (Or.inr z)) (fun b3 => pk_eq (c p) 4 (fun z => k4 z) (fun b4 => pk_eq (c p) 5 (fun z => k56 (Or.inl z)) (fun b5 => pk_eq (c p) 6 (fun z => k56 (Or.inr z)) (fun b6 => pk_eq (c p) 7 (fun z => k7 z) (fun b7 => pk_eq (c p) 8 (fun z => k8 z) (fun b8 => pk_eq (c p) 9 (fun z => k9 z) (fun b9 => pk_eq (c p) 10 (fun z => k10 z) (fun b10 => pk_eq (c p) 11 (fun z => k11 (Or.inl z)) (fun b11 => pk_eq (c p) 12 (fun z => k11 (Or.inr z)) (fun b12 => pk_eq (c p) 13 (fun z => k13 z) (fun b13 => pk_eq (c p) 14 (fun z => k14 z) (fun b14 => pk_eq (c p) 15 (fun z => k15 (by omega) (by omega)) (fun b15 => pk_eq (c p) 16 (fun z => k15 (by omega) (by omega)) (fun b16 => pk_eq (c p) 17 (fun z => k15 (by omega) (by omega)) (fun b17 => pk_eq (c p) 18 (fun z => k18 (by omega)) (fun b18 => pk_eq (c p) 19 (fun z => k18 (by omega)) (fun b19 => pk_eq (c p) 20 (fun z => k20 z) (fun b20 => pk_eq (c p) 21 (fun z => k21 z) (fun b21 => absurd b99 (by omega)) rfl rfl h31) rfl rfl h31) rfl rfl h31) rfl rfl h31) rfl rfl h31) rfl rfl h31) rfl rfl h31) rfl rfl h31) rfl rfl h31) rfl rfl h31) rfl rfl h31) rfl rfl h31) rfl rfl h31) rfl rfl h31) rfl rfl h31) rfl rfl h31) rfl rfl h31) rfl rfl h31) rfl rfl h31) rfl rfl h31) rfl rfl h31) rfl rfl h31
end
