def yr_fr (m : Nat) (TY TS IM FU SI WH TA LA GL GK GF : Nat → Int32) (GV : Nat → Int64) (EN EA H M TY' TS' IM' FU' SI' WH' TA' LA' GL' GK' GF' : Nat → Int32) (GV' : Nat → Int64) (EN' EA' H' M' : Nat → Int32) : Prop :=
  (∀ j, j ≠ m → TY' j = TY j) ∧ fr_i (4 * m) (4 * m + 4) TS TS' ∧ i2_fr m IM FU SI WH TA LA IM' FU' SI' WH' TA' LA' ∧ tl_fr m GL GK GF GV EN EA H M GL' GK' GF' GV' EN' EA' H' M'
def m_Sr (c : Nat → Nat) (n x : Nat) : Prop :=
  ((ft_S c (c 0) (rd_J c n) (m_I c n) (true, m_pI c n + 1) x ∨ ft_S c (c 0) (rd_F c n) (m_F c n) (true, m_pF c n + 1) x) ∨ en_S c (m_I c n + m_F c n) (c (tl_q c n (m_pG c n))) (tl_q c n (m_pG c n) + 1) x) ∨ me_S c n (tl_m c n (m_pG c n)) x
def m_Sb (c : Nat → Nat) (n lo hi x : Nat) : Prop := ∃ f, lo ≤ f ∧ f < hi ∧ c (m_fa c n f) < c 0 ∧ v_go c n f 141 (m_bo c n f) (v_0 c n f) = some x
theorem yw_of {c : Nat → Nat} {n : Nat} {L : Int32} {TY TS IM FU SI WH TA LA GL GK GF EN EA H M : Nat → Int32} {GV : Nat → Int64} (h : (rd_V c n).1 = true) (R : ry_ok 2 c n L TY TS IM FU SI WH TA LA GL GK GF GV EN EA H M) :
    yw_ok c n TY TS FU SI LA GL GK GF H ∧ IM 2 = nI (m_I c n) ∧ (∀ k, k < m_I c n → SI (14 + k) = sg_i c (c 0) (m_ty c n) (m_im c n k) ∧ TA (14 + k) = nI (m_im c n k) ∧ WH (6 + k) = nI (c (m_im c n k + 1))) ∧ lm L (m_Sr c n) := by
  obtain ⟨mp, _⟩ := mp_of h
  obtain ⟨r1, r2, r3, i1, i2, i3, f1, f2, f3, t1, t2, t3, t4, t5, t6, t7, t8, t9⟩ := R
  refine ⟨⟨r1, fun t ht => (r3 t ht).1, f1, fun f hf => ?_, fun f hf hf2 => ?_, t1, fun g hg => ?_, t7⟩, i1, fun k hk => ?_, t8⟩
  · by_cases z : f < m_I c n
    · have := (i3 f z).1
      rw [Nat.zero_add] at this
      rw [m_fa, if_pos z]; exact this
    · have := (f3 (f - m_I c n) (show f - m_I c n < m_F c n by omega)).1
      rw [show c (m_pI c n) + (f - m_I c n) = f from by show m_I c n + _ = f; omega] at this
      rw [m_fa, if_neg z]; exact this
  · have := (f3 (f - m_I c n) (show f - m_I c n < m_F c n by omega)).2.2
    rw [show c (m_pI c n) + (f - m_I c n) = f from by show m_I c n + _ = f; omega] at this
    rw [m_fa, if_neg (by omega)]; exact this
  · have := t3 g hg
    rw [Nat.zero_add] at this
    exact ⟨this.1, this.2.1⟩
  · have := i3 k hk
    rw [Nat.zero_add] at this
    exact this
theorem lm_v {L : Int32} {S : Nat → Prop} (h : lm L S) : ∃ l, L = nI l ∧ l ≤ 1000 := by
  obtain ⟨l, a, b, _⟩ := h; exact ⟨l, a, b⟩
section
variable {y_count y_place y_m y_pos y_wrong y_least y_top y_frames y_invalid y_sp y_labels y_active y_fuel y_outcome y_trappedAt y_used y_waits y_printed : Int32} {y_constant y_result : Int64} {y_bytes y_there y_types y_typeSig y_imports y_functions y_sig y_what y_typeAt y_localsAt y_globals y_globalKind y_globalFree y_entries y_entriesAt y_hasMemory y_memory y_nest y_kinds y_shape y_gives y_height y_dead y_labelAt y_labelHeight y_labelGives y_callModule y_callFunction y_callBack y_callBase y_callLabels y_waiting y_prints : Nat → Int32} {y_globalValue y_stack : Nat → Int64}
variable {c c0 : Nat → Nat} {n n0 s : Nat}
theorem y_81 {post : Int32 → SY → Prop} {J : Int32 → Int32 → Int32 → Int32 → Int32 → Int32 → Int64 → Int32 → Int32 → Int32 → Int32 → Int32 → Int32 → Int32 → Int32 → Int32 → Int32 → Int64 → Int32 → Int32 → Int32 → (Nat → Int32) → (Nat → Int32) → (Nat → Int32) → (Nat → Int32) → (Nat → Int32) → (Nat → Int32) → (Nat → Int32) → (Nat → Int32) → (Nat → Int32) → (Nat → Int32) → (Nat → Int32) → (Nat → Int32) → (Nat → Int32) → (Nat → Int64) → (Nat → Int32) → (Nat → Int32) → (Nat → Int32) → (Nat → Int32) → (Nat → Int32) → (Nat → Int32) → (Nat → Int32) → (Nat → Int32) → (Nat → Int32) → (Nat → Int32) → (Nat → Int64) → (Nat → Int32) → (Nat → Int32) → (Nat → Int32) → (Nat → Int32) → (Nat → Int32) → (Nat → Int32) → (Nat → Int32) → (Nat → Int32) → (Nat → Int32) → (Nat → Int32) → Prop} {x1 : Int32} (f z : Nat) (hz : z ≤ 1000) (S : Nat → Prop) (hL : lm y_place S) (S' : Nat → Prop) (hS : ∀ x, S' x ↔ S x ∨ (z < 1000 ∧ x = z)) (h : ∀ PL, lm PL S' → J (nI (f + 1)) y_count PL y_m y_pos y_wrong y_constant y_least y_top y_frames y_invalid y_sp y_labels y_active y_fuel y_outcome y_trappedAt y_result y_used y_waits y_printed y_bytes y_there y_types y_typeSig y_imports y_functions y_sig y_what y_typeAt y_localsAt y_globals y_globalKind y_globalFree y_globalValue y_entries y_entriesAt y_hasMemory y_memory y_nest y_kinds y_shape y_gives y_height y_dead y_stack y_labelAt y_labelHeight y_labelGives y_callModule y_callFunction y_callBack y_callBase y_callLabels y_waiting y_prints) : wY_load_81 post J x1 (nI f) (nI z) y_count y_place y_m y_pos y_wrong y_constant y_least y_top y_frames y_invalid y_sp y_labels y_active y_fuel y_outcome y_trappedAt y_result y_used y_waits y_printed y_bytes y_there y_types y_typeSig y_imports y_functions y_sig y_what y_typeAt y_localsAt y_globals y_globalKind y_globalFree y_globalValue y_entries y_entriesAt y_hasMemory y_memory y_nest y_kinds y_shape y_gives y_height y_dead y_stack y_labelAt y_labelHeight y_labelGives y_callModule y_callFunction y_callBack y_callBase y_callLabels y_waiting y_prints := by
  obtain ⟨l, e, hl, hd, hf⟩ := hL
  subst e
  refine pk_le l z (fun y => nm_r (nI_1 f) (h _ ⟨l, rfl, hl, ?_, fun x hx => ?_⟩)) (fun y => nm_r (nI_1 f) (h _ ⟨z, rfl, hz, ?_, fun x hx => ?_⟩))
  · exact hd.imp id (fun q => (hS l).mpr (Or.inl q))
  · rcases (hS x).mp hx with q | q
    · exact hf x q
    · omega
  · exact Or.inr ((hS z).mpr (Or.inr ⟨by omega, rfl⟩))
  · rcases (hS x).mp hx with q | q
    · have := hf x q; omega
    · omega
theorem y_48 {post : Int32 → SY → Prop} {P : Nat → Nat} (C : cy_ok y_count y_m y_bytes 2 c n) (mp : mp_ok c n) (W : yw_ok c n y_types y_typeSig y_functions y_sig y_localsAt y_globals y_globalKind y_globalFree y_hasMemory) (hib : ∀ f, m_I c n ≤ f → f < m_I c n + m_F c n → ib c n P 141 (m_bo c n f) [0]) (S : Nat → Prop) (x1 : Int32) :
    ∀ r f l (PL a : Int32) (k : Int64) (tp fr iv : Int32) (KI SH GI HE DE : Nat → Int32), f + r = m_I c n + m_F c n → m_I c n ≤ f → r < l → lm PL (fun x => S x ∨ m_Sb c n (m_I c n) f x) →
    (∀ PL a k tp fr iv KI SH GI HE DE, lm PL (fun x => S x ∨ m_Sb c n (m_I c n) (m_I c n + m_F c n) x) →
      ((1000 ≤ PL → (∃ n115 : Nat, wY_load_115 post x1 y_count y_m a (bb_w true) k y_least tp fr iv y_sp y_labels y_active y_fuel y_outcome y_trappedAt y_result y_used y_waits y_printed y_bytes y_there y_types y_typeSig y_imports y_functions y_sig y_what y_typeAt y_localsAt y_globals y_globalKind y_globalFree y_globalValue y_entries y_entriesAt y_hasMemory y_memory y_nest KI SH GI HE DE y_stack y_labelAt y_labelHeight y_labelGives y_callModule y_callFunction y_callBack y_callBase y_callLabels y_waiting y_prints n115 0 PL)) ∧ (¬ 1000 ≤ PL → post 2 (y_count, PL, y_m, a, bb_w true, k, y_least, tp, fr, iv, y_sp, y_labels, y_active, y_fuel, y_outcome, y_trappedAt, y_result, y_used, y_waits, y_printed, y_bytes, y_there, y_types, y_typeSig, y_imports, y_functions, y_sig, y_what, y_typeAt, y_localsAt, y_globals, y_globalKind, y_globalFree, y_globalValue, y_entries, y_entriesAt, y_hasMemory, y_memory, y_nest, KI, SH, GI, HE, DE, y_stack, y_labelAt, y_labelHeight, y_labelGives, y_callModule, y_callFunction, y_callBack, y_callBase, y_callLabels, y_waiting, y_prints)))) →
    wY_load_48 post x1 l (nI f) y_count PL y_m a (bb_w true) k y_least tp fr iv y_sp y_labels y_active y_fuel y_outcome y_trappedAt y_result y_used y_waits y_printed y_bytes y_there y_types y_typeSig y_imports y_functions y_sig y_what y_typeAt y_localsAt y_globals y_globalKind y_globalFree y_globalValue y_entries y_entriesAt y_hasMemory y_memory y_nest KI SH GI HE DE y_stack y_labelAt y_labelHeight y_labelGives y_callModule y_callFunction y_callBack y_callBase y_callLabels y_waiting y_prints := by
  obtain ⟨w1, w2, w3, w4, w5, w6, w7, w8⟩ := id W
  have hI := mp.2.2.1
  have hFn := mp.2.2.2.1
  intro r
  induction r with
  | zero =>
    intro f l PL a k tp fr iv KI SH GI HE DE hr hf1 hl hL h
    obtain ⟨l, rfl⟩ : ∃ j, l = j + 1 := ⟨l - 1, by omega⟩
    have : f = m_I c n + m_F c n := by omega
    subst this
    exact pk_le (m_I c n + m_F c n) (m_I c n + m_F c n) (fun _ => h PL a k tp fr iv KI SH GI HE DE hL) (fun z => absurd z (by omega)) w3 rfl
  | succ r ih =>
    intro f l PL a k tp fr iv KI SH GI HE DE hr hf1 hl hL h
    obtain ⟨l, rfl⟩ : ∃ j, l = j + 1 := ⟨l - 1, by omega⟩
    have hf2 : f < m_I c n + m_F c n := by omega
    have e14 : (14 : Int32) + nI f = nI (14 + f) := nI_add 14 f
    have es : y_sig ((14 : Int32) + nI f).toNatClampNeg = sg_i c (c 0) (m_ty c n) (m_fa c n f) := by rw [pk_cl (14 + f) e14]; exact w4 f hf2
    refine pk_le (m_I c n + m_F c n) f (fun z => absurd z (by omega)) (fun _ => ⟨pk_in (14 + f) 21 (by omega) e14, ?_⟩) w3 rfl
    have hSb : ∀ (r1 : Option Nat), (c (m_fa c n f) < c 0 → v_go c n f 141 (m_bo c n f) (v_0 c n f) = r1) → (¬ c (m_fa c n f) < c 0 → r1 = none) → (∀ w, r1 = some w → w < 1000) → ∀ x, (S x ∨ m_Sb c n (m_I c n) (f + 1) x) ↔ ((S x ∨ m_Sb c n (m_I c n) f x) ∨ (r1.getD 1000 < 1000 ∧ x = r1.getD 1000)) := by
      intro r1 h1 h2 h3 x
      constructor
      · rintro (q | ⟨g, q1, q2, q3, q4⟩)
        · exact Or.inl (Or.inl q)
        · by_cases z : g = f
          · subst z
            rw [h1 q3] at q4
            subst q4
            have := h3 x rfl
            exact Or.inr ⟨this, rfl⟩
          · exact Or.inl (Or.inr ⟨g, q1, by omega, q3, q4⟩)
      · rintro ((q | ⟨g, q1, q2, q3, q4⟩) | ⟨q1, q2⟩)
        · exact Or.inl q
        · exact Or.inr ⟨g, q1, by omega, q3, q4⟩
        · cases r1 with
          | none => exact absurd q1 (by show ¬ 1000 < 1000; omega)
          | some w =>
            have q2' : x = w := q2
            subst q2'
            by_cases z : c (m_fa c n f) < c 0
            · exact Or.inr ⟨f, hf1, by omega, z, h1 z⟩
            · exact nomatch (h2 z)
    by_cases z : c (m_fa c n f) < c 0
    · have es2 : y_sig ((14 : Int32) + nI f).toNatClampNeg = nI (sg c (m_ty c n (c (m_fa c n f)))) := by rw [es, sg_i, if_pos z]
      have hsg := sg_lt (mp.2.1 _ z).1
      refine br_t (by rw [es2]; exact nI_pos' (by omega)) ?_
      refine y_validate C mp W f hf1 hf2 z 141 (hib f hf1 hf2) (fun a k tp fr iv KI SH GI HE DE => ?_)
      have hw : ∀ w, v_go c n f 141 (m_bo c n f) (v_0 c n f) = some w → w < 1000 := by
        intro w hw
        have hn := C.2.1
        have key : ∀ k p (S : vt_St) T, ib c n P k p T → T = S.2.1.map (·.1) → v_go c n f k p S = some w → w < n := by
          intro k
          induction k with
          | zero => intro p S T _ _ q; exact nomatch q
          | succ k ih2 =>
            intro p S T hi hT q
            rw [v_go] at q
            by_cases hF : S.2.1 = []
            · rw [if_pos hF] at q; exact nomatch q
            rw [if_neg hF] at q
            obtain ⟨i1, i2, i3, i4, i5, i6, i7⟩ := hi
            cases hb : (v_st c n f p S).2.2 with
            | true => rw [if_pos hb] at q; have := Option.some.inj q; omega
            | false =>
              rw [if_neg (by rw [hb]; simp)] at q
              have hcod := v_codes hF hb
              by_cases hend : (v_st c n f p S).2.1 = []
              · have : v_go c n f k (nx c p) (v_st c n f p S) = none := by
                  cases k with
                  | zero => rfl
                  | succ k => rw [v_go, if_pos hend]
                rw [this] at q; exact nomatch q
              · refine ih2 (nx c p) _ (cod c p T) ?_ (by rw [hT]; exact hcod.symm) q
                subst hT
                unfold cod
                by_cases ho : 2 ≤ c p ∧ c p ≤ 4
                · rw [if_pos ho] at i7 ⊢; exact i7
                · rw [if_neg ho] at i7 ⊢
                  by_cases h5 : c p = 5
                  · rw [if_pos h5] at i7 ⊢; exact i7.2
                  · rw [if_neg h5] at i7 ⊢
                    by_cases h6 : c p = 6
                    · rw [if_pos h6] at i7 ⊢
                      rcases i7 with y | y
                      · exfalso
                        apply hend
                        rw [cod, if_neg ho, if_neg h5, if_pos h6, y] at hcod
                        exact List.map_eq_nil_iff.mp hcod
                      · exact y
                    · rw [if_neg h6] at i7 ⊢; exact i7
        have := key 141 _ _ _ (hib f hf1 hf2) rfl hw
        omega
      have hle : (v_go c n f 141 (m_bo c n f) (v_0 c n f)).getD 1000 ≤ 1000 := by
        cases e : v_go c n f 141 (m_bo c n f) (v_0 c n f) with
        | none => exact Nat.le_refl _
        | some w => have := hw w e; show w ≤ 1000; omega
      exact y_81 f _ hle _ hL (fun x => S x ∨ m_Sb c n (m_I c n) (f + 1) x) (hSb _ (fun _ => rfl) (fun y => absurd z y) hw) (fun PL hL' => ih (f + 1) l PL a k tp fr iv KI SH GI HE DE (by omega) (by omega) (by omega) hL' h)
    · have es2 : y_sig ((14 : Int32) + nI f).toNatClampNeg = -1 := by rw [es, sg_i, if_neg z]
      refine br_f (by rw [es2]; decide) ?_
      exact y_81 f 1000 (Nat.le_refl _) _ hL (fun x => S x ∨ m_Sb c n (m_I c n) (f + 1) x) (hSb none (fun y => absurd y z) (fun _ => rfl) (fun w q => nomatch q)) (fun PL hL' => ih (f + 1) l PL a k tp fr iv KI SH GI HE DE (by omega) (by omega) (by omega) hL' h)
theorem y_linked {post : Int32 → Prop} (mp : mp_ok c n) (s : Nat) (hs : s < 2) (l0 : Bool) (hl : y_there 0 = bb_i l0) (H0 : l0 = true → y_functions 0 = nI (m_I c0 n0 + m_F c0 n0) ∧ mp_ok c0 n0 ∧ (∀ f, f < m_I c0 n0 + m_F c0 n0 → c0 (m_fa c0 n0 f) < c0 0 ∧ y_sig f = nI (sg c0 (m_ty c0 n0 (c0 (m_fa c0 n0 f)))))) (k : Nat) (hk : k < m_I c n) (ht : c (m_im c n k) < c 0) (h256 : ∀ i, c i < 256)
    (eS : y_sig (14 + k) = sg_i c (c 0) (m_ty c n) (m_im c n k)) (eW : y_what (6 + k) = nI (c (m_im c n k + 1)))
    (h1 : lk_ok s l0 c n c0 n0 k → post 1) (h2 : ¬ lk_ok s l0 c n c0 n0 k → post 0) : wpY_linked post (y_count, y_place, y_m, y_pos, y_wrong, y_constant, y_least, y_top, y_frames, y_invalid, y_sp, y_labels, y_active, y_fuel, y_outcome, y_trappedAt, y_result, y_used, y_waits, y_printed, y_bytes, y_there, y_types, y_typeSig, y_imports, y_functions, y_sig, y_what, y_typeAt, y_localsAt, y_globals, y_globalKind, y_globalFree, y_globalValue, y_entries, y_entriesAt, y_hasMemory, y_memory, y_nest, y_kinds, y_shape, y_gives, y_height, y_dead, y_stack, y_labelAt, y_labelHeight, y_labelGives, y_callModule, y_callFunction, y_callBack, y_callBase, y_callLabels, y_waiting, y_prints) (nI s) (nI k) := by
  have hI := mp.2.2.1
  obtain ⟨t1, t2⟩ := mp.2.1 _ ht
  have hsg := sg_lt t1
  have bw := h256 (m_im c n k + 1)
  unfold lk_ok at h1 h2
  have e6 : (6 : Int32) + nI k = nI (6 + k) := nI_add 6 k
  have e14 : (14 : Int32) + nI k = nI (14 + k) := nI_add 14 k
  refine ⟨pk_in (6 + k) 9 (by omega) e6, nm_r (show y_what ((6 : Int32) + nI k).toNatClampNeg = nI (c (m_im c n k + 1)) from by rw [pk_cl (6 + k) e6]; exact eW) ⟨pk_in (14 + k) 21 (by omega) e14, nm_r (show y_sig ((14 : Int32) + nI k).toNatClampNeg = nI (sg c (m_ty c n (c (m_im c n k)))) from by rw [pk_cl (14 + k) e14, eS, sg_i, if_pos ht]) ?_⟩⟩
  generalize sg c (m_ty c n (c (m_im c n k))) = sv at *
  generalize c (m_im c n k + 1) = wh at *
  refine pk_eq wh 16 (fun z => ?_) (fun z => ?_)
  · rw [if_pos z] at h1 h2
    exact pk_eq sv 5 h1 h2
  · rw [if_neg z] at h1 h2
    refine pk_eq wh 17 (fun z2 => ?_) (fun z2 => ?_)
    · rw [if_pos z2] at h1 h2
      exact pk_eq sv 256 h1 h2
    · rw [if_neg z2] at h1 h2
      refine pk_eq s 1 (fun y => pk_le 7 wh (fun y1 => h2 (fun q => by omega)) (fun y1 => ?_)) (fun y => h2 (fun q => y q.1))
      cases l0 with
      | false => exact br_t hl (h2 (fun q => ff_t q.2.2.1))
      | true =>
        obtain ⟨f1, mp0, f2⟩ := H0 rfl
        have hI0 := mp0.2.2.1
        have hF0 := mp0.2.2.2.1
        refine br_f (fun q => absurd (hl.symm.trans q) (by decide)) ?_
        refine pk_le (m_I c0 n0 + m_F c0 n0) wh (fun y2 => h2 (fun q => by omega)) (fun y2 => ⟨pk_in wh 21 (by omega), ?_⟩) f1 rfl
        obtain ⟨g1, g2⟩ := f2 wh y2
        have hsg0 := sg_lt (mp0.2.1 _ g1).1
        refine pk_eq (sg c0 (m_ty c0 n0 (c0 (m_fa c0 n0 wh)))) sv (fun q => h1 ⟨y, y1, rfl, y2, q⟩) (fun q => h2 (fun r => q r.2.2.2.2)) (by rw [pk_cl wh]; exact g2) rfl
theorem y_115 {post : Int32 → SY → Prop} (hIM : y_imports 2 = nI (m_I c n)) (mp : mp_ok c n) (hs : s < 2) (hn : n ≤ 140) (l0 : Bool) (hl : y_there 0 = bb_i l0) (H0 : l0 = true → y_functions 0 = nI (m_I c0 n0 + m_F c0 n0) ∧ mp_ok c0 n0 ∧ (∀ f, f < m_I c0 n0 + m_F c0 n0 → c0 (m_fa c0 n0 f) < c0 0 ∧ y_sig f = nI (sg c0 (m_ty c0 n0 (c0 (m_fa c0 n0 f)))))) (hv : ∀ k, k < m_I c n → c (m_im c n k) < c 0) (h256 : ∀ i, c i < 256)
    (hK : ∀ k, k < m_I c n → y_sig (14 + k) = sg_i c (c 0) (m_ty c n) (m_im c n k) ∧ y_typeAt (14 + k) = nI (m_im c n k) ∧ y_what (6 + k) = nI (c (m_im c n k + 1)))
    (h3 : ∀ k, k < m_I c n → ¬ lk_ok s l0 c n c0 n0 k → (∀ j, j < k → lk_ok s l0 c n c0 n0 j) → post 3 (y_count, nI (m_im c n k + 1), y_m, y_pos, y_wrong, y_constant, y_least, y_top, y_frames, y_invalid, y_sp, y_labels, y_active, y_fuel, y_outcome, y_trappedAt, y_result, y_used, y_waits, y_printed, y_bytes, y_there, y_types, y_typeSig, y_imports, y_functions, y_sig, y_what, y_typeAt, y_localsAt, y_globals, y_globalKind, y_globalFree, y_globalValue, y_entries, y_entriesAt, y_hasMemory, y_memory, y_nest, y_kinds, y_shape, y_gives, y_height, y_dead, y_stack, y_labelAt, y_labelHeight, y_labelGives, y_callModule, y_callFunction, y_callBack, y_callBase, y_callLabels, y_waiting, y_prints))
    (h4 : (∀ k, k < m_I c n → lk_ok s l0 c n c0 n0 k) → ∃ n164, wY_load_164 post (nI s) y_count (-1) y_m y_pos y_wrong y_constant y_least y_top y_frames y_invalid y_sp y_labels y_active y_fuel y_outcome y_trappedAt y_result y_used y_waits y_printed n164 0 y_bytes y_there y_types y_typeSig y_imports y_functions y_sig y_what y_typeAt y_localsAt y_globals y_globalKind y_globalFree y_globalValue y_entries y_entriesAt y_hasMemory y_memory y_nest y_kinds y_shape y_gives y_height y_dead y_stack y_labelAt y_labelHeight y_labelGives y_callModule y_callFunction y_callBack y_callBase y_callLabels y_waiting y_prints) :
    ∀ r i l (PL : Int32), i + r = m_I c n → r < l → (∀ j, j < i → lk_ok s l0 c n c0 n0 j) → wY_load_115 post (nI s) y_count y_m y_pos y_wrong y_constant y_least y_top y_frames y_invalid y_sp y_labels y_active y_fuel y_outcome y_trappedAt y_result y_used y_waits y_printed y_bytes y_there y_types y_typeSig y_imports y_functions y_sig y_what y_typeAt y_localsAt y_globals y_globalKind y_globalFree y_globalValue y_entries y_entriesAt y_hasMemory y_memory y_nest y_kinds y_shape y_gives y_height y_dead y_stack y_labelAt y_labelHeight y_labelGives y_callModule y_callFunction y_callBack y_callBase y_callLabels y_waiting y_prints l (nI i) PL := by
  have hI := mp.2.2.1
  intro r
  induction r with
  | zero =>
    intro i l PL hr hl2 hj
    obtain ⟨l, rfl⟩ : ∃ j, l = j + 1 := ⟨l - 1, by omega⟩
    exact pk_le (m_I c n) i (fun _ => h4 (fun k hk => hj k (by omega))) (fun z => absurd z (by omega)) hIM rfl
  | succ r ih =>
    intro i l PL hr hl2 hj
    obtain ⟨l, rfl⟩ : ∃ j, l = j + 1 := ⟨l - 1, by omega⟩
    have hi : i < m_I c n := by omega
    obtain ⟨k1, k2, k3⟩ := hK i hi
    have e14 : (14 : Int32) + nI i = nI (14 + i) := nI_add 14 i
    refine pk_le (m_I c n) i (fun z => absurd z (by omega)) (fun _ => ⟨pk_in (14 + i) 21 (by omega) e14, nm_r (show y_typeAt ((14 : Int32) + nI i).toNatClampNeg + 1 = nI (m_im c n i + 1) from by rw [pk_cl (14 + i) e14, k2, nI_1]) ?_⟩) hIM rfl
    refine y_linked (c0 := c0) (n0 := n0) mp s hs l0 hl H0 i hi (hv i hi) h256 k1 k3 (fun z => br_f (by decide) (nm_r (nI_1 i) ?_)) (fun z => br_t rfl (h3 i hi z hj))
    refine ih (i + 1) l _ (by omega) (by omega) (fun j hj2 => ?_)
    rcases Nat.lt_or_ge j i with q | q
    · exact hj j q
    · rw [show j = i by omega]; exact z
theorem y_164 {post : Int32 → SY → Prop} (hs : s < 2) (hn : y_count = nI n) (h140 : n ≤ 140) (h256 : ∀ i, c i < 256) (hD : ∀ i, i < n → y_bytes (280 + i) = nI (c i))
    (h : ∀ BY k L TY TS IM FU SI TA LA WH NE GL GK GF GV EN EA H M TH, fr_i (140 * s) (140 * s + 140) y_bytes BY → (∀ i, i < n → BY (140 * s + i) = nI (c i)) →
      yr_fr s y_types y_typeSig y_imports y_functions y_sig y_what y_typeAt y_localsAt y_globals y_globalKind y_globalFree y_globalValue y_entries y_entriesAt y_hasMemory y_memory TY TS IM FU SI WH TA LA GL GK GF GV EN EA H M →
      ((rd_V c n).1 = true → ry_ok s c n L TY TS IM FU SI WH TA LA GL GK GF GV EN EA H M) → TH s = bb_i true → (s = 0 → TH 1 = bb_i false) → (s = 1 → TH 0 = y_there 0) →
      post 0 (y_count, y_place, nI s, nI (rd_V c n).2, bb_w (rd_V c n).1, k, L, y_top, y_frames, y_invalid, y_sp, y_labels, y_active, y_fuel, y_outcome, y_trappedAt, y_result, y_used, y_waits, y_printed, BY, TH, TY, TS, IM, FU, SI, WH, TA, LA, GL, GK, GF, GV, EN, EA, H, M, NE, y_kinds, y_shape, y_gives, y_height, y_dead, y_stack, y_labelAt, y_labelHeight, y_labelGives, y_callModule, y_callFunction, y_callBack, y_callBase, y_callLabels, y_waiting, y_prints)) :
    ∀ r i l (BY : Nat → Int32), i + r = n → r < l → fr_i (140 * s) (140 * s + 140) y_bytes BY → (∀ j, j < i → BY (140 * s + j) = nI (c j)) → wY_load_164 post (nI s) y_count y_place y_m y_pos y_wrong y_constant y_least y_top y_frames y_invalid y_sp y_labels y_active y_fuel y_outcome y_trappedAt y_result y_used y_waits y_printed l (nI i) BY y_there y_types y_typeSig y_imports y_functions y_sig y_what y_typeAt y_localsAt y_globals y_globalKind y_globalFree y_globalValue y_entries y_entriesAt y_hasMemory y_memory y_nest y_kinds y_shape y_gives y_height y_dead y_stack y_labelAt y_labelHeight y_labelGives y_callModule y_callFunction y_callBack y_callBase y_callLabels y_waiting y_prints := by
  intro r
  induction r with
  | zero =>
    intro i l BY hi hl hf hb
    obtain ⟨l, rfl⟩ : ∃ j, l = j + 1 := ⟨l - 1, by omega⟩
    have hi' : i = n := by omega
    subst hi'
    refine pk_le i i (fun _ => ?_) (fun z => absurd z (by omega)) hn rfl
    refine y_read (m := s) (c := c) (n := i) ⟨hn, h140, rfl, by omega, hb, h256⟩ (fun k L TY TS IM FU SI TA LA WH NE GL GK GF GV EN EA H M f1 f2 f3 f4 f5 => ⟨pk_in s 3 (by omega), nm_r (show upd y_there (nI s).toNatClampNeg (vp_nar .boolean 1) = upd y_there s (bb_i true) from by rw [pk_cl s]; rfl) ?_⟩)
    refine pk_eq s 0 (fun z => nm_r (show upd (upd y_there s (bb_i true)) 1 (vp_nar .boolean 0) = upd (upd y_there s (bb_i true)) 1 (bb_i false) from rfl) ?_) (fun z => ?_)
    · exact h BY k L TY TS IM FU SI TA LA WH NE GL GK GF GV EN EA H M _ hf hb ⟨f1, f2, f3, f4⟩ f5 (by rw [pk_un (by omega), pk_us]) (fun _ => pk_us) (fun y => absurd y (by omega))
    · exact h BY k L TY TS IM FU SI TA LA WH NE GL GK GF GV EN EA H M _ hf hb ⟨f1, f2, f3, f4⟩ f5 pk_us (fun y => absurd y z) (fun _ => pk_un (by omega))
  | succ r ih =>
    intro i l BY hi hl hf hb
    obtain ⟨l, rfl⟩ : ∃ j, l = j + 1 := ⟨l - 1, by omega⟩
    have e1 : (280 : Int32) + nI i = nI (280 + i) := nI_add 280 i
    have e2 : 140 * nI s + nI i = nI (140 * s + i) := by rw [show (140 : Int32) = nI 140 from rfl, pk_mul, nI_add]
    have hci := h256 i
    refine pk_le n i (fun z => absurd z (by omega)) (fun _ => ⟨pk_in (280 + i) 420 (by omega) e1, pk_in (140 * s + i) 420 (by omega) e2, nm_r (show upd BY (140 * nI s + nI i).toNatClampNeg (vp_nar .short (BY ((280 : Int32) + nI i).toNatClampNeg)) = upd BY (140 * s + i) (nI (c i)) from ?_) (nm_r (nI_1 i) ?_)⟩) hn rfl
    · rw [pk_cl (140 * s + i) e2, pk_cl (280 + i) e1, hf (280 + i) (by omega), hD i (by omega), nr_s' (by omega)]
    · refine ih (i + 1) l _ (by omega) (by omega) (fun j hj => (pk_un (by omega)).trans (hf j hj)) (fun j hj => ?_)
      by_cases z : j = i
      · subst z; exact pk_us
      · rw [pk_un (by omega)]; exact hb j (by omega)
end
