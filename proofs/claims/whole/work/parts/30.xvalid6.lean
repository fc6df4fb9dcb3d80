section
variable {u : SX} {c : Nat → Nat} {n p : Nat} {WP a : Int32} {F Pa : Nat → Int32} {P : Nat → Nat}
theorem x_val_l {post : Int32 → SX → Prop} {J : Int32 → Int32 → Int32 → Int32 → Int32 → Int32 → Int32 → Int32 → Int32 → Int32 → Int64 → Int32 → Int32 → Int32 → Int32 → Int32 → (Nat → Int32) → (Nat → Int32) → (Nat → Int32) → (Nat → Int32) → (Nat → Int64) → (Nat → Int32) → (Nat → Int32) → (Nat → Int32) → (Nat → Int32) → (Nat → Int32) → (Nat → Int32) → (Nat → Int64) → (Nat → Int64) → (Nat → Int32) → (Nat → Int32) → (Nat → Int32) → (Nat → Int32) → (Nat → Int32) → (Nat → Int32) → Prop} {x1 : Int32} (M : mx_ok u 2 c) (hPa : xr_Pa Pa P) (Fx : xf_ok 44 c n F) (mp : mp_ok c n) (hn : n ≤ 140) (f : Nat) (hf1 : m_I c n ≤ f) (hf2 : f < m_I c n + m_F c n) (ht : c (m_fa c n f) < c 0) :
    ∀ k p i l (S : vt_St) (A FH FR FD KI : Nat → Int32), ib c n P k p (S.2.1.map (·.1)) → S.2.1 ≠ [] → S.2.2 = false → XV c S A FH FR FD KI → xi_ok c P p (m_bo c n f) 0 (co_l S.2.1) → jb_ok c P (m_bo c n f) p (co_l S.2.1) → i < p → k < l →
    (v_go c n f k p S = none → ∀ a fc kc A FH FR FD KI, J (nI (f + 1)) (gx_byteCount u) WP a fc kc (gx_valueCount u) (gx_activeCount u) (gx_goesOn u) (gx_outcome u) (gx_resultValue u) (gx_trapPlace u) (gx_fuelUsed u) (gx_firstWaiting u) (gx_waitingCount u) (gx_printCount u) (gx_code u) F Pa (gx_loaded u) (gx_globals u) (gx_memories u) A FH FR FD KI (gx_values u) (gx_variables u) (gx_activeSlot u) (gx_activeGives u) (gx_activeFrame u) (gx_activeResume u) (gx_waiting u) (gx_prints u)) →
    (∀ w, v_go c n f k p S = some w → ∀ fc kc A FH FR FD KI, post 0 (xl u WP (nI w) fc kc F Pa A FH FR FD KI)) →
    wX_checkFunctions_92 post J x1 (nI f) l (nI i) (gx_byteCount u) WP (nI p) (nI S.2.1.length) (nI S.1.length) (gx_valueCount u) (gx_activeCount u) (gx_goesOn u) (gx_outcome u) (gx_resultValue u) (gx_trapPlace u) (gx_fuelUsed u) (gx_firstWaiting u) (gx_waitingCount u) (gx_printCount u) (gx_code u) F Pa (gx_loaded u) (gx_globals u) (gx_memories u) A FH FR FD KI (gx_values u) (gx_variables u) (gx_activeSlot u) (gx_activeGives u) (gx_activeFrame u) (gx_activeResume u) (gx_waiting u) (gx_prints u) := by
  intro k
  induction k with
  | zero => intro p i l S A FH FR FD KI hib; exact hib.elim
  | succ k ih =>
    intro p i l S A FH FR FD KI hib hF hb R hxi hjb hip hl hs hf
    obtain ⟨l, rfl⟩ : ∃ j, l = j + 1 := ⟨l - 1, by omega⟩
    obtain ⟨i1, i2, i3, i4, i5, i6, i7⟩ := hib
    obtain ⟨x1', x2, x3⟩ := iw_of (by rw [i3]) i1
    have hlen : 0 < S.2.1.length := List.length_pos_iff.mpr hF
    have hsz : S.2.1.length ≤ 8 := R.2.2.2.1
    refine pk_le 140 i (fun z => absurd z (by omega)) (fun _ => pk_le S.2.1.length 0 (fun z => absurd z (by omega)) (fun _ => ?_))
    rw [v_go, if_neg hF] at hs hf
    have h54 : c p = 5 → f_c S.2.1 = 4 := by
      intro z
      rw [if_neg (by omega), if_pos z] at i7
      obtain ⟨K, Fr, b⟩ := S
      cases Fr with
      | nil => exact absurd rfl hF
      | cons x Fr => exact i7.1
    have htop : c p = 6 → (c (f_o S.2.1) = 4 → P (f_o S.2.1) < 140) ∧ (c (f_o S.2.1) = 4 ∧ P (f_o S.2.1) = p ↔ f_c S.2.1 = 4) := by
      intro z
      obtain ⟨K, Fr, b⟩ := S
      cases Fr with
      | nil => exact absurd rfl hF
      | cons x Fr =>
        obtain ⟨cd, g, hh, d, o⟩ := x
        obtain ⟨rk, ⟨r1, r2, r3, r4, r5, r6, r7, r8⟩, _⟩ := R
        obtain ⟨z1, z2, z3⟩ := hxi
        show (c o = 4 → P o < 140) ∧ (c o = 4 ∧ P o = p ↔ cd = 4)
        by_cases hT : Fr = []
        · subst hT
          have e : o = m_bo c n f := z2 rfl
          obtain ⟨j1, j2⟩ := hjb
          have hcd := (r6 rfl).1
          have key : c o = 4 → P o < p := by
            intro hc
            rw [e] at hc ⊢
            rcases j2 hc with y | y | y
            · exact y
            · have : p = m_bo c n f := by omega
              rw [← this] at hc; omega
            · rcases y with ⟨y, _⟩ | y
              · exact absurd rfl y
              · exact y.elim
          exact ⟨fun hc => by have := key hc; omega, fun y => by have := key y.1; omega, fun y => by omega⟩
        · have hT' : co_l Fr ≠ [] := by intro q; exact hT (List.map_eq_nil_iff.mp q)
          have y1 : cd = 4 → SE c p 0 (P o) := (z1 hT').1
          have y2 : cd = 5 → P o < p := (z1 hT').2
          have q := r7 hT
          have e4 : cd = 4 → P o = p := fun y => SE_uni (y1 y) (SE_e z)
          refine ⟨fun hc => ?_, fun y => ?_, fun y => ⟨?_, e4 y⟩⟩
          · have : cd = 4 ∨ cd = 5 := by omega
            rcases this with y | y
            · have := e4 y; omega
            · have := y2 y; omega
          · have : cd = 4 ∨ cd = 5 := by omega
            rcases this with q2 | q2
            · exact q2
            · have := y2 q2; omega
          · omega
    refine x_instr (S := S) M hPa Fx mp hn f hf1 hf2 ht rfl i1 i2 x1' (fun z => (x2 z).1) (fun z => (htop z).1) (fun z => (htop z).2) h54 hF hb R (fun h1 kc A FH FR FD KI h2 => ?_) (fun h1 fc kc A FH FR FD KI => ?_)
    · rw [if_neg (by rw [h1]; simp)] at hs hf
      refine br_f (by decide) ?_
      refine xm_behind (w := (xl u WP (nI p) (nI (v_st c n f p S).2.1.length) kc F Pa A FH FR FD KI)) (m := 2) (by omega) M p (by omega) ?_
      refine nm_r (nI_1 i) ?_
      by_cases hend : (v_st c n f p S).2.1 = []
      · obtain ⟨l, rfl⟩ : ∃ j, l = j + 1 := ⟨l - 1, by omega⟩
        have e : v_go c n f k (nx c p) (v_st c n f p S) = none := by
          cases k with
          | zero => rfl
          | succ k => rw [v_go, if_pos hend]
        refine pk_le 140 (i + 1) (fun z => absurd z (by omega)) (fun _ => br_t (by rw [hend]; decide) (nm_r (nI_1 f) ?_))
        exact hs e _ _ _ _ _ _ _ _
      · obtain ⟨h3, h4⟩ := h2 hend
        subst h3
        have hcod := v_codes hF h1
        have hco := v_co hF h1
        have hstep := xi_step (n := n) (T := co_l S.2.1) (by intro q; exact hF (List.map_eq_nil_iff.mp q)) i5 i6 (fun z => by
          have y := h54 z
          obtain ⟨K, Fr, b⟩ := S
          cases Fr with
          | nil => exact absurd rfl hF
          | cons x Fr =>
            obtain ⟨cd, g, hh, d, o⟩ := x
            obtain ⟨rk, ⟨r1, r2, r3, r4, r5, r6, r7, r8⟩, _⟩ := R
            have y' : cd = 4 := y
            refine ⟨y', fun q => ?_⟩
            have q' : Fr = [] := List.map_eq_nil_iff.mp q
            have := (r6 q').1
            omega) hxi hjb
        rw [← hco] at hstep
        have hib' : ib c n P k (nx c p) ((v_st c n f p S).2.1.map (·.1)) := by
          rw [hcod]
          unfold cod
          by_cases ho : 2 ≤ c p ∧ c p ≤ 4
          · rw [if_pos ho] at i7 ⊢; exact i7
          · rw [if_neg ho] at i7 ⊢
            by_cases h5 : c p = 5
            · rw [if_pos h5] at i7 ⊢; exact i7.2
            · rw [if_neg h5] at i7 ⊢
              by_cases h6 : c p = 6
              · rw [if_pos h6] at i7 ⊢
                rcases i7 with z | z
                · exfalso
                  apply hend
                  rw [cod, if_neg ho, if_neg h5, if_pos h6, z] at hcod
                  exact List.map_eq_nil_iff.mp hcod
                · exact z
              · rw [if_neg h6] at i7 ⊢; exact i7
        exact ih (nx c p) (i + 1) l (v_st c n f p S) A FH FR FD KI hib' hend h1 h4 hstep.1 hstep.2 (by omega) (by omega) hs hf
    · rw [if_pos h1] at hf
      exact br_t rfl (hf p rfl _ _ _ _ _ _ _)
def vf_b (c : Nat → Nat) (n f : Nat) : Option Nat := if c (m_fa c n f) < c 0 then v_go c n f 141 (m_bo c n f) (v_0 c n f) else some (m_fa c n f)
def vf_1 (c : Nat → Nat) (n : Nat) : Nat → Nat → Option Nat
  | 0, _ => none
  | r + 1, f => if vf_b c n f = none then vf_1 c n r (f + 1) else vf_b c n f
theorem xm_bodyOf {w : SX} {post : Int32 → Prop} {m : Nat} (hm : m < 3) (M : mx_ok w m c) (Fx : xf_ok (m * 22) c n (gx_facts w)) (mp : mp_ok c n) (hn : n ≤ 140) (f : Nat) (hf : f < m_I c n + m_F c n) (h : post (nI (m_bo c n f))) : wpX_bodyOf post w (nI m) (nI f) := by
  have hI := mp.2.2.1
  have hF := mp.2.2.2.1
  have h1 := mp.2.2.2.2.1 f hf
  unfold wpX_bodyOf
  refine eq_p (P := fun z => wpX_fact _ _ _ z) (show (12 : Int32) + nI f = nI (12 + f) from nI_add 12 f) ?_
  refine xx_fact (m := m) (w := 12 + f) (z := nI (m_fa c n f)) (by rw [show m * 22 + (12 + f) = m * 22 + 12 + f by omega]; exact Fx.2.2.2.2.2.2.2.2.2.1 f hf) hm (by omega) (nm_r (nI_1 _) ?_)
  refine xx_byte M hm (by omega) ?_
  have e : (nI (m_fa c n f + 1) + 1) + nI (c (m_fa c n f + 1)) = nI (m_bo c n f) := by rw [nI_1, nI_add]; rfl
  exact eq_p (P := post) e h
theorem x_fns_l {post : Int32 → SX → Prop} (M : mx_ok u 2 c) (hPa : xr_Pa Pa P) (Fx : xf_ok 44 c n F) (mp : mp_ok c n) (hn : n ≤ 140) (hib : ∀ f, m_I c n ≤ f → f < m_I c n + m_F c n → ib c n P 141 (m_bo c n f) [0]) : ∀ r f l (a fc kc : Int32) (A FH FR FD KI : Nat → Int32), f + r = m_I c n + m_F c n → m_I c n ≤ f → r < l →
    (vf_1 c n r f = none → ∀ a fc kc A FH FR FD KI, post 1 (xl u WP a fc kc F Pa A FH FR FD KI)) →
    (∀ w, vf_1 c n r f = some w → ∀ fc kc A FH FR FD KI, post 0 (xl u WP (nI w) fc kc F Pa A FH FR FD KI)) →
    wX_checkFunctions_14 post (nI (m_I c n + m_F c n)) l (nI f) (gx_byteCount u) WP a fc kc (gx_valueCount u) (gx_activeCount u) (gx_goesOn u) (gx_outcome u) (gx_resultValue u) (gx_trapPlace u) (gx_fuelUsed u) (gx_firstWaiting u) (gx_waitingCount u) (gx_printCount u) (gx_code u) F Pa (gx_loaded u) (gx_globals u) (gx_memories u) A FH FR FD KI (gx_values u) (gx_variables u) (gx_activeSlot u) (gx_activeGives u) (gx_activeFrame u) (gx_activeResume u) (gx_waiting u) (gx_prints u) := by
  have h0 := mp.1
  have hI := mp.2.2.1
  have hF := mp.2.2.2.1
  intro r
  induction r with
  | zero =>
    intro f l a fc kc A FH FR FD KI hr hf1 hl hs hf
    obtain ⟨l, rfl⟩ : ∃ j, l = j + 1 := ⟨l - 1, by omega⟩
    exact pk_le (m_I c n + m_F c n) f (fun _ => hs rfl _ _ _ _ _ _ _ _) (fun z => absurd z (by omega))
  | succ r ih =>
    intro f l a fc kc A FH FR FD KI hr hf1 hl hs hf
    obtain ⟨l, rfl⟩ : ∃ j, l = j + 1 := ⟨l - 1, by omega⟩
    have hf2 : f < m_I c n + m_F c n := by omega
    have hfa := mp.2.2.2.2.1 f hf2
    obtain ⟨b1, b2, b3⟩ := mp.2.2.2.2.2.1 f hf1 hf2
    refine pk_le (m_I c n + m_F c n) f (fun z => absurd z (by omega)) (fun _ => ?_)
    refine eq_p (P := fun z => wpX_fact _ _ _ z) (show (12 : Int32) + nI f = nI (12 + f) from nI_add 12 f) ?_
    refine xx_fact (m := 2) (w := 12 + f) (z := nI (m_fa c n f)) (by rw [show 2 * 22 + (12 + f) = 44 + 12 + f by omega]; exact Fx.2.2.2.2.2.2.2.2.2.1 f hf2) (by omega) (by omega) ?_
    refine xx_byte (m := 2) M (by omega) (by omega) ?_
    refine xx_fact (m := 2) (w := 0) (z := nI (c 0)) (by exact Fx.1) (by omega) (by omega) ?_
    rw [vf_1] at hs hf
    refine pk_lt (c (m_fa c n f)) (c 0) (fun z => ?_) (fun z => ?_) rfl rfl (by have := M.2.1 (m_fa c n f); omega)
    · have eb : vf_b c n f = v_go c n f 141 (m_bo c n f) (v_0 c n f) := if_pos z
      rw [eb] at hs hf
      refine xm_bodyOf (w := (xl u WP (nI (m_fa c n f)) fc kc F Pa A FH FR FD KI)) (m := 2) (by omega) M Fx mp hn f hf2 ?_
      refine xm_resultOf (w := (xl u WP (nI (m_bo c n f)) fc kc F Pa A FH FR FD KI)) (m := 2) (by omega) M Fx mp hn _ z ?_
      obtain ⟨t1, t2⟩ := mp.2.1 _ z
      refine x_open (S := ([], [], false)) (c := c) 0 (ty_r c (m_ty c n (c (m_fa c n f)))) (m_bo c n f) (by omega) (ty_r_le t1) rfl (by
        obtain ⟨q1, _⟩ := hib f hf1 hf2
        omega) (fun _ => ⟨rfl, rfl⟩) (fun q => absurd rfl q) rfl ⟨trivial, trivial, by simp, by simp, fun _ hk => absurd hk (by simp), trivial⟩ (fun h1 A FH FR FD R => ⟨142, ?_⟩) (fun h1 => ff_t h1)
      have hgo : v_go c n f 141 (m_bo c n f) (v_0 c n f) = none ∨ ∃ w, v_go c n f 141 (m_bo c n f) (v_0 c n f) = some w := by
        cases v_go c n f 141 (m_bo c n f) (v_0 c n f) with
        | none => exact Or.inl rfl
        | some w => exact Or.inr ⟨w, rfl⟩
      refine x_val_l M hPa Fx mp hn f hf1 hf2 z 141 (m_bo c n f) 0 142 (v_0 c n f) A FH FR FD KI (hib f hf1 hf2) (by simp [v_0]) rfl R ⟨fun q => absurd rfl q, fun _ => rfl, trivial⟩ ⟨Nat.le_refl _, fun _ => Or.inr (Or.inl (Nat.le_refl _))⟩ (by unfold m_bo; omega) (by omega) (fun h2 a fc kc A FH FR FD KI => ?_) (fun w h2 fc kc A FH FR FD KI => ?_)
      · rw [if_pos h2] at hs hf
        exact ih (f + 1) l a fc kc A FH FR FD KI (by omega) (by omega) (by omega) hs hf
      · rw [h2, if_neg (by simp)] at hf
        exact hf w rfl _ _ _ _ _ _ _
    · have eb : vf_b c n f = some (m_fa c n f) := if_neg (by omega)
      rw [eb, if_neg (by simp)] at hf
      exact hf _ rfl _ _ _ _ _ _ _
theorem x_fns {post : Int32 → SX → Prop} {fc kc : Int32} {A FH FR FD KI : Nat → Int32} (M : mx_ok u 2 c) (hPa : xr_Pa Pa P) (Fx : xf_ok 44 c n F) (mp : mp_ok c n) (hn : n ≤ 140) (hib : ∀ f, m_I c n ≤ f → f < m_I c n + m_F c n → ib c n P 141 (m_bo c n f) [0])
    (hs : vf_1 c n (m_F c n) (m_I c n) = none → ∀ a fc kc A FH FR FD KI, post 1 (xl u WP a fc kc F Pa A FH FR FD KI))
    (hf : ∀ w, vf_1 c n (m_F c n) (m_I c n) = some w → ∀ fc kc A FH FR FD KI, post 0 (xl u WP (nI w) fc kc F Pa A FH FR FD KI)) : wpX_checkFunctions post (xl u WP a fc kc F Pa A FH FR FD KI) := by
  unfold wpX_checkFunctions
  refine xx_fact (m := 2) (w := 2) (z := nI (m_I c n + m_F c n)) (by exact Fx.2.2.1) (by omega) (by omega) ?_
  refine xx_fact (m := 2) (w := 1) (z := nI (m_I c n)) (by exact Fx.2.1) (by omega) (by omega) ⟨m_F c n + 1, ?_⟩
  exact x_fns_l M hPa Fx mp hn hib (m_F c n) (m_I c n) _ _ _ _ _ _ _ _ _ rfl (Nat.le_refl _) (by omega) hs hf
def vi_1 (c : Nat → Nat) (n : Nat) : Nat → Nat → Option Nat
  | 0, _ => none
  | r + 1, i => if c (m_fa c n i) < c 0 then vi_1 c n r (i + 1) else some (m_fa c n i)
theorem x_imps_l {post : Int32 → SX → Prop} {fc kc : Int32} {A FH FR FD KI : Nat → Int32} (M : mx_ok u 2 c) (Fx : xf_ok 44 c n F) (mp : mp_ok c n) (hn : n ≤ 140)
    (hs : vi_1 c n (m_I c n) 0 = none → ∀ a, post 1 (xl u WP a fc kc F Pa A FH FR FD KI)) (hf : ∀ w, vi_1 c n (m_I c n) 0 = some w → post 0 (xl u WP (nI w) fc kc F Pa A FH FR FD KI)) :
    ∀ r i l (a : Int32), i + r = m_I c n → r < l → vi_1 c n r i = vi_1 c n (m_I c n) 0 →
    wX_checkImports_9 post (nI (m_I c n)) (gx_byteCount u) WP fc kc (gx_valueCount u) (gx_activeCount u) (gx_goesOn u) (gx_outcome u) (gx_resultValue u) (gx_trapPlace u) (gx_fuelUsed u) (gx_firstWaiting u) (gx_waitingCount u) (gx_printCount u) (gx_code u) F Pa (gx_loaded u) (gx_globals u) (gx_memories u) A FH FR FD KI (gx_values u) (gx_variables u) (gx_activeSlot u) (gx_activeGives u) (gx_activeFrame u) (gx_activeResume u) (gx_waiting u) (gx_prints u) l (nI i) a := by
  have h0 := mp.1
  have hI := mp.2.2.1
  intro r
  induction r with
  | zero =>
    intro i l a hr hl e
    obtain ⟨l, rfl⟩ : ∃ j, l = j + 1 := ⟨l - 1, by omega⟩
    exact pk_le (m_I c n) i (fun _ => hs e.symm _) (fun z => absurd z (by omega))
  | succ r ih =>
    intro i l a hr hl e
    obtain ⟨l, rfl⟩ : ∃ j, l = j + 1 := ⟨l - 1, by omega⟩
    have hfa := mp.2.2.2.2.1 i (by omega)
    refine pk_le (m_I c n) i (fun z => absurd z (by omega)) (fun _ => ?_)
    refine eq_p (P := fun z => wpX_fact _ _ _ z) (show (12 : Int32) + nI i = nI (12 + i) from nI_add 12 i) ?_
    refine xx_fact (m := 2) (w := 12 + i) (z := nI (m_fa c n i)) (by rw [show 2 * 22 + (12 + i) = 44 + 12 + i by omega]; exact Fx.2.2.2.2.2.2.2.2.2.1 i (by omega)) (by omega) (by omega) ?_
    refine xx_byte (m := 2) M (by omega) (by omega) ?_
    refine xx_fact (m := 2) (w := 0) (z := nI (c 0)) (by exact Fx.1) (by omega) (by omega) ?_
    rw [vi_1] at e
    refine pk_lt (c (m_fa c n i)) (c 0) (fun z => nm_r (nI_1 i) ?_) (fun z => ?_) rfl rfl (by have := M.2.1 (m_fa c n i); omega)
    · rw [if_pos z] at e
      exact ih (i + 1) l _ (by omega) (by omega) e
    · rw [if_neg (by omega)] at e
      exact hf _ e.symm
theorem x_imps {post : Int32 → SX → Prop} {fc kc : Int32} {A FH FR FD KI : Nat → Int32} (M : mx_ok u 2 c) (Fx : xf_ok 44 c n F) (mp : mp_ok c n) (hn : n ≤ 140)
    (hs : vi_1 c n (m_I c n) 0 = none → ∀ a, post 1 (xl u WP a fc kc F Pa A FH FR FD KI)) (hf : ∀ w, vi_1 c n (m_I c n) 0 = some w → post 0 (xl u WP (nI w) fc kc F Pa A FH FR FD KI)) :
    wpX_checkImports post (xl u WP a fc kc F Pa A FH FR FD KI) := by
  unfold wpX_checkImports
  refine xx_fact (m := 2) (w := 1) (z := nI (m_I c n)) (by exact Fx.2.1) (by omega) (by omega) ⟨m_I c n + 1, ?_⟩
  exact x_imps_l M Fx mp hn hs hf (m_I c n) 0 _ a (by omega) (by omega) rfl
def ve_1 (c : Nat → Nat) (fn : Nat) : Nat → Nat → Option Nat
  | 0, _ => none
  | r + 1, p => if c p < fn ∨ c p = 255 then ve_1 c fn r (p + 1) else some p
theorem x_ents_l {post : Int32 → SX → Prop} {fc kc : Int32} {A FH FR FD KI : Nat → Int32} (M : mx_ok u 2 c) (Fx : xf_ok 44 c n F) (mp : mp_ok c n) (hn : n ≤ 140)
    (hs : ve_1 c (m_I c n + m_F c n) (c (tl_q c n (m_pG c n))) (tl_q c n (m_pG c n) + 1) = none → ∀ a, post 1 (xl u WP a fc kc F Pa A FH FR FD KI)) (hf : ∀ w, ve_1 c (m_I c n + m_F c n) (c (tl_q c n (m_pG c n))) (tl_q c n (m_pG c n) + 1) = some w → post 0 (xl u WP (nI w) fc kc F Pa A FH FR FD KI)) :
    ∀ r i l (a : Int32), i + r = c (tl_q c n (m_pG c n)) → r < l → ve_1 c (m_I c n + m_F c n) r (tl_q c n (m_pG c n) + 1 + i) = ve_1 c (m_I c n + m_F c n) (c (tl_q c n (m_pG c n))) (tl_q c n (m_pG c n) + 1) →
    wX_checkEntries_9 post (nI (c (tl_q c n (m_pG c n)))) (gx_byteCount u) WP fc kc (gx_valueCount u) (gx_activeCount u) (gx_goesOn u) (gx_outcome u) (gx_resultValue u) (gx_trapPlace u) (gx_fuelUsed u) (gx_firstWaiting u) (gx_waitingCount u) (gx_printCount u) (gx_code u) F Pa (gx_loaded u) (gx_globals u) (gx_memories u) A FH FR FD KI (gx_values u) (gx_variables u) (gx_activeSlot u) (gx_activeGives u) (gx_activeFrame u) (gx_activeResume u) (gx_waiting u) (gx_prints u) l (nI i) a := by
  have h0 := mp.1
  have hI := mp.2.2.1
  have hF := mp.2.2.2.1
  have hE : c (tl_q c n (m_pG c n)) ≤ 5 := mp.2.2.2.2.2.2.2.2.1
  have hM : tl_m c n (m_pG c n) < n := mp.2.2.2.2.2.2.2.2.2.2
  unfold tl_m at hM
  intro r
  induction r with
  | zero =>
    intro i l a hr hl e
    obtain ⟨l, rfl⟩ : ∃ j, l = j + 1 := ⟨l - 1, by omega⟩
    exact pk_le (c (tl_q c n (m_pG c n))) i (fun _ => hs e.symm _) (fun z => absurd z (by omega))
  | succ r ih =>
    intro i l a hr hl e
    obtain ⟨l, rfl⟩ : ∃ j, l = j + 1 := ⟨l - 1, by omega⟩
    refine pk_le (c (tl_q c n (m_pG c n))) i (fun z => absurd z (by omega)) (fun _ => ?_)
    refine xx_fact (m := 2) (w := 6) (z := nI (tl_q c n (m_pG c n) + 1)) (by exact Fx.2.2.2.2.2.2.1) (by omega) (by omega) ?_
    refine nm_r (nI_add _ _) ?_
    refine xx_byte (m := 2) M (by omega) (by omega) ?_
    refine xx_fact (m := 2) (w := 2) (z := nI (m_I c n + m_F c n)) (by exact Fx.2.2.1) (by omega) (by omega) ?_
    rw [ve_1] at e
    have hc := M.2.1 (tl_q c n (m_pG c n) + 1 + i)
    refine pk_lt (c (tl_q c n (m_pG c n) + 1 + i)) (m_I c n + m_F c n) (fun z => nm_r (nI_1 i) ?_) (fun z => pk_eq (c (tl_q c n (m_pG c n) + 1 + i)) 255 (fun z2 => nm_r (nI_1 i) ?_) (fun z2 => ?_))
    · rw [if_pos (Or.inl z)] at e
      exact ih (i + 1) l _ (by omega) (by omega) e
    · rw [if_pos (Or.inr z2)] at e
      exact ih (i + 1) l _ (by omega) (by omega) e
    · rw [if_neg (by omega)] at e
      exact hf _ e.symm
theorem x_ents {post : Int32 → SX → Prop} {fc kc : Int32} {A FH FR FD KI : Nat → Int32} (M : mx_ok u 2 c) (Fx : xf_ok 44 c n F) (mp : mp_ok c n) (hn : n ≤ 140)
    (hs : ve_1 c (m_I c n + m_F c n) (c (tl_q c n (m_pG c n))) (tl_q c n (m_pG c n) + 1) = none → ∀ a, post 1 (xl u WP a fc kc F Pa A FH FR FD KI)) (hf : ∀ w, ve_1 c (m_I c n + m_F c n) (c (tl_q c n (m_pG c n))) (tl_q c n (m_pG c n) + 1) = some w → post 0 (xl u WP (nI w) fc kc F Pa A FH FR FD KI)) :
    wpX_checkEntries post (xl u WP a fc kc F Pa A FH FR FD KI) := by
  unfold wpX_checkEntries
  refine xx_fact (m := 2) (w := 4) (z := nI (c (tl_q c n (m_pG c n)))) (by exact Fx.2.2.2.2.1) (by omega) (by omega) ⟨c (tl_q c n (m_pG c n)) + 1, ?_⟩
  exact x_ents_l M Fx mp hn hs hf (c (tl_q c n (m_pG c n))) 0 _ a (by omega) (by omega) rfl
def vd_1 (c : Nat → Nat) : Nat → Nat → Option Nat
  | 0, _ => none
  | r + 1, p => if c p + c (p + 1) ≤ 48 then vd_1 c r (p + 2 + c (p + 1)) else some p
theorem x_data_l {post : Int32 → SX → Prop} {fc kc : Int32} {A FH FR FD KI : Nat → Int32} (M : mx_ok u 2 c) (N p0 : Nat) (hN : N ≤ 2)
    (hs : vd_1 c N p0 = none → ∀ a, post 1 (xl u WP a fc kc F Pa A FH FR FD KI)) (hf : ∀ w, vd_1 c N p0 = some w → post 0 (xl u WP (nI w) fc kc F Pa A FH FR FD KI)) :
    ∀ r i l p, i + r = N → r < l → p + 300 * r < 950 → vd_1 c r p = vd_1 c N p0 →
    wX_checkData_44 post (nI N) (gx_byteCount u) WP fc kc (gx_valueCount u) (gx_activeCount u) (gx_goesOn u) (gx_outcome u) (gx_resultValue u) (gx_trapPlace u) (gx_fuelUsed u) (gx_firstWaiting u) (gx_waitingCount u) (gx_printCount u) (gx_code u) F Pa (gx_loaded u) (gx_globals u) (gx_memories u) A FH FR FD KI (gx_values u) (gx_variables u) (gx_activeSlot u) (gx_activeGives u) (gx_activeFrame u) (gx_activeResume u) (gx_waiting u) (gx_prints u) l (nI i) (nI p) := by
  intro r
  induction r with
  | zero =>
    intro i l p hr hl hp e
    obtain ⟨l, rfl⟩ : ∃ j, l = j + 1 := ⟨l - 1, by omega⟩
    exact pk_le N i (fun _ => hs e.symm _) (fun z => absurd z (by omega))
  | succ r ih =>
    intro i l p hr hl hp e
    obtain ⟨l, rfl⟩ : ∃ j, l = j + 1 := ⟨l - 1, by omega⟩
    have h1 := M.2.1 p
    have h2 := M.2.1 (p + 1)
    refine pk_le N i (fun z => absurd z (by omega)) (fun _ => ?_)
    refine eq_p (P := fun z => wpX_byteAt _ _ _ z) (nI_1 p) ?_
    refine xx_byte (m := 2) M (by omega) (by omega) ?_
    refine xx_byte (m := 2) M (by omega) (by omega) ?_
    rw [vd_1] at e
    refine pk_le (c p + c (p + 1)) 48 (fun z => nm_r (show nI p + (2 + nI (c (p + 1))) = nI (p + 2 + c (p + 1)) from by rw [show (2 : Int32) = nI 2 from rfl, nI_add, nI_add]; congr 1; omega) (nm_r (nI_1 i) ?_)) (fun z => ?_) (nI_add _ _) rfl
    · rw [if_pos z] at e
      exact ih (i + 1) l _ (by omega) (by omega) (by omega) e
    · rw [if_neg (by omega)] at e
      exact hf _ e.symm
theorem x_data {post : Int32 → SX → Prop} {fc kc : Int32} {A FH FR FD KI : Nat → Int32} (M : mx_ok u 2 c) (Fx : xf_ok 44 c n F) (mp : mp_ok c n) (hn : n ≤ 140) (h2 : c (tl_m c n (m_pG c n)) = 1 → c (tl_m c n (m_pG c n) + 1) ≤ 2)
    (hs : (c (tl_m c n (m_pG c n)) = 1 → vd_1 c (c (tl_m c n (m_pG c n) + 1)) (tl_m c n (m_pG c n) + 2) = none) → ∀ a, post 1 (xl u WP a fc kc F Pa A FH FR FD KI))
    (hf : ∀ w, c (tl_m c n (m_pG c n)) = 1 → vd_1 c (c (tl_m c n (m_pG c n) + 1)) (tl_m c n (m_pG c n) + 2) = some w → post 0 (xl u WP (nI w) fc kc F Pa A FH FR FD KI)) :
    wpX_checkData post (xl u WP a fc kc F Pa A FH FR FD KI) := by
  have hm1 : c (tl_m c n (m_pG c n)) ≤ 1 := mp.2.2.2.2.2.2.2.2.2.1
  have hM : tl_m c n (m_pG c n) < n := mp.2.2.2.2.2.2.2.2.2.2
  unfold wpX_checkData
  refine xx_fact (m := 2) (w := 5) (z := nI (c (tl_m c n (m_pG c n)))) (by exact Fx.2.2.2.2.2.1) (by omega) (by omega) ?_
  refine pk_eq (c (tl_m c n (m_pG c n))) 0 (fun z => hs (fun y => absurd y (by omega)) _) (fun z => ?_)
  have z1 : c (tl_m c n (m_pG c n)) = 1 := by omega
  refine xx_fact (m := 2) (w := 7) (z := nI (tl_m c n (m_pG c n) + 1)) (by exact Fx.2.2.2.2.2.2.2.1) (by omega) (by omega) ?_
  refine xx_byte (m := 2) M (by omega) (by omega) (nm_r (nI_1 _) ⟨c (tl_m c n (m_pG c n) + 1) + 1, ?_⟩)
  have := h2 z1
  exact x_data_l M _ (tl_m c n (m_pG c n) + 2) this (fun y => hs (fun _ => y)) (fun w y => hf w z1 y) _ 0 _ _ (Nat.zero_add _) (by omega) (by omega) rfl
end
