def rd_e (n : Nat) (q : Bool × Nat) : Bool × Nat := if q.2 < n then (false, q.2) else q
theorem rd_e_ok {n : Nat} {q : Bool × Nat} (h : (rd_e n q).1 = true) : q.1 = true ∧ ¬ q.2 < n ∧ rd_e n q = q := by
  unfold rd_e at h ⊢
  by_cases z : q.2 < n
  · rw [if_pos z] at h; exact ff_t h
  · rw [if_neg z] at h ⊢; exact ⟨h, z, rfl⟩
def en_S (c : Nat → Nat) (fn k p : Nat) (x : Nat) : Prop := ∃ i, i < k ∧ x = p + i ∧ fn ≤ c x ∧ c x ≠ 255
def rd_E (c : Nat → Nat) (n : Nat) (q : Bool × Nat) : Bool × Nat := rd_e n (rd_M c n (rd_n c n 0 255 (rd_tv c n 0 5 q) (rd_tk c n 0 5 q)))
def me_S (c : Nat → Nat) (n p : Nat) (x : Nat) : Prop := c p = 1 ∧ md_S c n (c (p + 1)) (true, p + 2) x
section
variable {y_count y_place y_m y_pos y_wrong y_least y_top y_frames y_invalid y_sp y_labels y_active y_fuel y_outcome y_trappedAt y_used y_waits y_printed : Int32} {y_constant y_result : Int64} {y_bytes y_there y_types y_typeSig y_imports y_functions y_sig y_what y_typeAt y_localsAt y_globals y_globalKind y_globalFree y_entries y_entriesAt y_hasMemory y_memory y_nest y_kinds y_shape y_gives y_height y_dead y_labelAt y_labelHeight y_labelGives y_callModule y_callFunction y_callBack y_callBase y_callLabels y_waiting y_prints : Nat → Int32} {y_globalValue y_stack : Nat → Int64}
variable {m : Nat} {c : Nat → Nat} {n p : Nat}
theorem ym_411 {post : SY → Prop} {H M : Nat → Int32} (C : cy_ok y_count y_m y_bytes m c n) (E fn : Nat) (hE : E ≤ 5) (hfn : fn < 100) (eE : y_entries m = nI E) (efn : y_functions m = nI fn) : ∀ r i l (q : Bool × Nat) (L : Int32) (S : Nat → Prop), i + r = E → r < l → q.2 ≤ n → (q.1 = true → lm L S) →
    (∀ L' H' M', (∀ j, j ≠ m → H' j = H j) → fr_i (48 * m) (48 * m + 48) M M' → ((rd_e n (rd_M c n (rd_n c n 0 255 r q))).1 = true → H' m = nI (c (q.2 + r)) ∧
        lm L' (fun x => (S x ∨ en_S c fn r q.2 x) ∨ me_S c n (q.2 + r) x) ∧ ∀ j, j < 48 → M' (48 * m + j) = sb_v (if c (q.2 + r) = 1 then md_k c n (c (q.2 + r + 1)) (true, q.2 + r + 2) (fun _ => 0) j else 0)) →
      post (y_count, y_place, y_m, nI (rd_e n (rd_M c n (rd_n c n 0 255 r q))).2, bb_w (rd_e n (rd_M c n (rd_n c n 0 255 r q))).1, y_constant, L', y_top, y_frames, y_invalid, y_sp, y_labels, y_active, y_fuel, y_outcome, y_trappedAt, y_result, y_used, y_waits, y_printed, y_bytes, y_there, y_types, y_typeSig, y_imports, y_functions, y_sig, y_what, y_typeAt, y_localsAt, y_globals, y_globalKind, y_globalFree, y_globalValue, y_entries, y_entriesAt, H', M', y_nest, y_kinds, y_shape, y_gives, y_height, y_dead, y_stack, y_labelAt, y_labelHeight, y_labelGives, y_callModule, y_callFunction, y_callBack, y_callBase, y_callLabels, y_waiting, y_prints)) →
    wY_read_411 post l (nI i) y_count y_place y_m (nI q.2) (bb_w q.1) y_constant L y_top y_frames y_invalid y_sp y_labels y_active y_fuel y_outcome y_trappedAt y_result y_used y_waits y_printed y_bytes y_there y_types y_typeSig y_imports y_functions y_sig y_what y_typeAt y_localsAt y_globals y_globalKind y_globalFree y_globalValue y_entries y_entriesAt H M y_nest y_kinds y_shape y_gives y_height y_dead y_stack y_labelAt y_labelHeight y_labelGives y_callModule y_callFunction y_callBack y_callBase y_callLabels y_waiting y_prints := by
  obtain ⟨hn, h140, hm, h3, hb, h256⟩ := id C
  have em : y_m.toNatClampNeg = m := by rw [hm]; exact nI_clamp (by omega)
  have eE' : y_entries y_m.toNatClampNeg = nI E := by rw [em]; exact eE
  have efn' : y_functions y_m.toNatClampNeg = nI fn := by rw [em]; exact efn
  intro r
  induction r with
  | zero =>
    intro i l q L S hi hl hq hL h
    obtain ⟨l, rfl⟩ : ∃ j, l = j + 1 := ⟨l - 1, by omega⟩
    refine ⟨pk_in m 3 h3 hm, pk_le E i (fun _ => ?_) (fun z => absurd z (by omega)) eE' rfl⟩
    rw [show rd_n c n 0 255 0 q = q from rfl] at h
    simp only [Nat.add_zero] at h
    refine ym_mem C q hq S hL (fun L' H' M' f1 f2 f3 => ?_)
    have gM : (rd_M c n q).2 ≤ n := by
      have g1 := (rd_G_tk c n 0 1).1 q hq
      unfold rd_M
      split
      · exact ((rd_G_it (rd_G_D c n) _).1 _ ((rd_G_tk c n 0 2).1 _ g1.2).2).2
      · exact g1.2
    have key : ∀ (e : rd_e n (rd_M c n q) = if (rd_M c n q).2 < n then (false, (rd_M c n q).2) else rd_M c n q), True := fun _ => trivial
    refine pk_le n (rd_M c n q).2 (fun z => ?_) (fun z => ?_) hn rfl
    · have e : rd_e n (rd_M c n q) = rd_M c n q := if_neg (by omega)
      rw [e] at h
      refine h L' H' M' f1 f2 (fun y => ?_)
      obtain ⟨y1, y2, y3⟩ := f3 y
      exact ⟨y1, lm_ext y2 (fun x => ⟨fun a => a.imp Or.inl id, fun a => a.imp (fun b => b.elim id (fun ⟨i, hi, _⟩ => absurd hi (by omega))) id⟩), y3⟩
    · have e : rd_e n (rd_M c n q) = (false, (rd_M c n q).2) := if_pos z
      rw [e] at h
      exact h L' H' M' f1 f2 (fun y => ff_t y)
  | succ r ih =>
    intro i l q L S hi hl hq hL h
    obtain ⟨l, rfl⟩ : ∃ j, l = j + 1 := ⟨l - 1, by omega⟩
    refine ⟨pk_in m 3 h3 hm, pk_le E i (fun z => absurd z (by omega)) (fun _ => ?_) eE' rfl⟩
    rw [rd_n] at h
    have g1 := (rd_G_tk c n 0 255).1 q hq
    have v1 := (rd_tv_le (c := c) (n := n) (lo := 0) (hi := 255) (q := q) (by omega)).2
    have ok : (rd_tk c n 0 255 q).1 = true → q.1 = true ∧ rd_tk c n 0 255 q = (true, q.2 + 1) ∧ rd_tv c n 0 255 q = c q.2 := by
      intro z
      rcases rd_tk_or c n 0 255 q with ⟨e1, a⟩ | e1
      · exact ⟨a.1, e1, if_pos a⟩
      · rw [e1] at z; exact ff_t z
    refine ym_take C q hq 0 255 (by omega) (by omega) ⟨pk_in m 3 h3 hm, ?_⟩
    have k459 : ∀ z : Int32, (z = 0 ∨ z = 1) → ((rd_tk c n 0 255 q).1 = true → (z = 1 ↔ fn ≤ c q.2 ∧ c q.2 ≠ 255)) →
        wY_read_459 post (wY_read_411 post l) (nI i) z y_count y_place y_m (nI (rd_tk c n 0 255 q).2) (bb_w (rd_tk c n 0 255 q).1) y_constant L y_top y_frames y_invalid y_sp y_labels y_active y_fuel y_outcome y_trappedAt y_result y_used y_waits y_printed y_bytes y_there y_types y_typeSig y_imports y_functions y_sig y_what y_typeAt y_localsAt y_globals y_globalKind y_globalFree y_globalValue y_entries y_entriesAt H M y_nest y_kinds y_shape y_gives y_height y_dead y_stack y_labelAt y_labelHeight y_labelGives y_callModule y_callFunction y_callBack y_callBase y_callLabels y_waiting y_prints := by
      intro z hz hzi
      refine ym_note (rd_tk c n 0 255 q).1 z hz _ q.2 (by omega) S (fun y => ?_) (fun y => hL (ok y).1) (fun L' hL' => nm_r (nI_1 i) ?_)
      · rw [(ok y).2.1]; exact nI_pred q.2
      · refine ih (i + 1) l _ L' _ (by omega) (by omega) g1.2 hL' (fun L2 H2 M2 k1 k2 k3 => h L2 H2 M2 k1 k2 (fun y => ?_))
        obtain ⟨y1, y2, y3⟩ := k3 y
        have yt : (rd_tk c n 0 255 q).1 = true := by
          have a := (rd_e_ok y).1
          have b : (rd_n c n 0 255 r (rd_tk c n 0 255 q)).1 = true := by
            cases e : (rd_n c n 0 255 r (rd_tk c n 0 255 q)).1 with
            | true => rfl
            | false =>
              rw [rd_M, rd_tv_f e, if_neg (by decide), rd_tk_f e] at a
              exact ff_t a
          exact rd_G_tr (rd_G_n c n 0 255 r) b
        obtain ⟨o1, o2, o3⟩ := ok yt
        have hz2 := hzi yt
        rw [o2] at y1 y2 y3
        dsimp only at y1 y2 y3
        rw [show q.2 + 1 + r = q.2 + (r + 1) by omega] at y1 y2 y3
        refine ⟨y1, lm_ext y2 (fun x => ⟨?_, ?_⟩), y3⟩
        · rintro (((a | ⟨a, rfl⟩) | ⟨j, a1, a2, a3⟩) | a)
          · exact Or.inl (Or.inl a)
          · exact Or.inl (Or.inr ⟨0, by omega, rfl, hz2.mp a⟩)
          · exact Or.inl (Or.inr ⟨j + 1, by omega, by omega, a3⟩)
          · exact Or.inr a
        · rintro ((a | ⟨j, a1, a2, a3⟩) | a)
          · exact Or.inl (Or.inl (Or.inl a))
          · cases j with
            | zero =>
              have a2' : x = q.2 := a2
              subst a2'
              exact Or.inl (Or.inl (Or.inr ⟨hz2.mpr a3, rfl⟩))
            | succ j => exact Or.inl (Or.inr ⟨j, by omega, by omega, a3⟩)
          · exact Or.inr a
    refine pk_lt (rd_tv c n 0 255 q) fn (fun z => k459 0 (Or.inl rfl) (fun y => ⟨fun a => absurd a (by decide), fun a => ?_⟩)) (fun z => pk_eq (rd_tv c n 0 255 q) 255 (fun z2 => k459 0 (Or.inl rfl) (fun y => ⟨fun a => absurd a (by decide), fun a => ?_⟩)) (fun z2 => k459 1 (Or.inr rfl) (fun y => ⟨fun _ => ?_, fun _ => rfl⟩))) rfl efn'
    · rw [(ok y).2.2] at z; exact absurd a.1 (by omega)
    · rw [(ok y).2.2] at z2; exact absurd z2 a.2
    · rw [(ok y).2.2] at z z2; exact ⟨z, z2⟩
def gl_ok (m : Nat) (c : Nat → Nat) (n : Nat) (i r : Nat) (q : Bool × Nat) (GK GF : Nat → Int32) (GV : Nat → Int64) : Prop :=
  ∀ g, g < r → GK (3 * m + (i + g)) = nI (c (rd_it (rd_g c n) g q).2) ∧ GF (3 * m + (i + g)) = nI (c ((rd_it (rd_g c n) g q).2 + 1)) ∧ GV (3 * m + (i + g)) = cv c (c (rd_it (rd_g c n) g q).2) 10 ((rd_it (rd_g c n) g q).2 + 2) 0 0
def fr_l (lo hi : Nat) (a a' : Nat → Int64) : Prop := ∀ j, ¬ (lo ≤ j ∧ j < hi) → a' j = a j
theorem rd_g_ok {q : Bool × Nat} (h : (rd_g c n q).1 = true) : q.1 = true ∧ rd_tk c n 1 2 q = (true, q.2 + 1) ∧ rd_tv c n 1 2 q = c q.2 ∧ 1 ≤ c q.2 ∧ c q.2 ≤ 2 ∧ rd_tk c n 0 1 (rd_tk c n 1 2 q) = (true, q.2 + 2) ∧ rd_tv c n 0 1 (rd_tk c n 1 2 q) = c (q.2 + 1) ∧ c (q.2 + 1) ≤ 1 := by
  have h1 := rd_G_tr (rd_G_C c n _ (by split <;> omega)) h
  rcases rd_tk_or c n 0 1 (rd_tk c n 1 2 q) with ⟨e1, a⟩ | e1
  · rcases rd_tk_or c n 1 2 q with ⟨e2, b⟩ | e2
    · refine ⟨b.1, e2, if_pos b, b.2.2.1, b.2.2.2, by rw [e1, e2], ?_, ?_⟩
      · rw [show rd_tv c n 0 1 (rd_tk c n 1 2 q) = c (rd_tk c n 1 2 q).2 from if_pos a, e2]
      · have := a.2.2.2; rw [e2] at this; exact this
    · rw [e2] at a; exact ff_t a.1
  · rw [e1] at h1; exact ff_t h1
theorem yg_278 {post : SY → Prop} (C : cy_ok y_count y_m y_bytes m c n) (G fn : Nat) (hG : G ≤ 3) (hfn : fn < 100) (eG : y_globals m = nI G) (efn : y_functions m = nI fn) (S : Nat → Prop) : ∀ r i l (q : Bool × Nat) (k : Int64) (GK GF : Nat → Int32) (GV : Nat → Int64), i + r = G → r < l → q.2 ≤ n → (q.1 = true → lm y_least S) →
    (∀ k' L' GK' GF' GV' EN EA H' M', fr_i (3 * m + i) (3 * m + 3) GK GK' → fr_i (3 * m + i) (3 * m + 3) GF GF' → fr_l (3 * m + i) (3 * m + 3) GV GV' → (∀ j, j ≠ m → EN j = y_entries j) → (∀ j, j ≠ m → EA j = y_entriesAt j) → (∀ j, j ≠ m → H' j = y_hasMemory j) → fr_i (48 * m) (48 * m + 48) y_memory M' →
      ((rd_E c n (rd_it (rd_g c n) r q)).1 = true → gl_ok m c n i r q GK' GF' GV' ∧ EN m = nI (c (rd_it (rd_g c n) r q).2) ∧ EA m = nI ((rd_it (rd_g c n) r q).2 + 1) ∧ c (rd_it (rd_g c n) r q).2 ≤ 5 ∧
        H' m = nI (c ((rd_it (rd_g c n) r q).2 + 1 + c (rd_it (rd_g c n) r q).2)) ∧
        lm L' (fun x => (S x ∨ en_S c fn (c (rd_it (rd_g c n) r q).2) ((rd_it (rd_g c n) r q).2 + 1) x) ∨ me_S c n ((rd_it (rd_g c n) r q).2 + 1 + c (rd_it (rd_g c n) r q).2) x) ∧
        ∀ j, j < 48 → M' (48 * m + j) = sb_v (if c ((rd_it (rd_g c n) r q).2 + 1 + c (rd_it (rd_g c n) r q).2) = 1 then md_k c n (c ((rd_it (rd_g c n) r q).2 + 1 + c (rd_it (rd_g c n) r q).2 + 1)) (true, (rd_it (rd_g c n) r q).2 + 1 + c (rd_it (rd_g c n) r q).2 + 2) (fun _ => 0) j else 0)) →
      post (y_count, y_place, y_m, nI (rd_E c n (rd_it (rd_g c n) r q)).2, bb_w (rd_E c n (rd_it (rd_g c n) r q)).1, k', L', y_top, y_frames, y_invalid, y_sp, y_labels, y_active, y_fuel, y_outcome, y_trappedAt, y_result, y_used, y_waits, y_printed, y_bytes, y_there, y_types, y_typeSig, y_imports, y_functions, y_sig, y_what, y_typeAt, y_localsAt, y_globals, GK', GF', GV', EN, EA, H', M', y_nest, y_kinds, y_shape, y_gives, y_height, y_dead, y_stack, y_labelAt, y_labelHeight, y_labelGives, y_callModule, y_callFunction, y_callBack, y_callBase, y_callLabels, y_waiting, y_prints)) →
    wY_read_278 post l (nI i) y_count y_place y_m (nI q.2) (bb_w q.1) k y_least y_top y_frames y_invalid y_sp y_labels y_active y_fuel y_outcome y_trappedAt y_result y_used y_waits y_printed y_bytes y_there y_types y_typeSig y_imports y_functions y_sig y_what y_typeAt y_localsAt y_globals GK GF GV y_entries y_entriesAt y_hasMemory y_memory y_nest y_kinds y_shape y_gives y_height y_dead y_stack y_labelAt y_labelHeight y_labelGives y_callModule y_callFunction y_callBack y_callBase y_callLabels y_waiting y_prints := by
  obtain ⟨hn, h140, hm, h3, hb, h256⟩ := id C
  have em : y_m.toNatClampNeg = m := by rw [hm]; exact nI_clamp (by omega)
  have eG' : y_globals y_m.toNatClampNeg = nI G := by rw [em]; exact eG
  intro r
  induction r with
  | zero =>
    intro i l q k GK GF GV hi hl hq hL h
    obtain ⟨l, rfl⟩ : ∃ j, l = j + 1 := ⟨l - 1, by omega⟩
    rw [show rd_it (rd_g c n) 0 q = q from rfl] at h
    refine ⟨pk_in m 3 h3 hm, pk_le G i (fun _ => ?_) (fun z => absurd z (by omega)) eG' rfl⟩
    have g1 := (rd_G_tk c n 0 5).1 q hq
    have v1 := (rd_tv_le (c := c) (n := n) (lo := 0) (hi := 5) (q := q) (by omega)).2
    have ok : (rd_tk c n 0 5 q).1 = true → q.1 = true ∧ rd_tk c n 0 5 q = (true, q.2 + 1) ∧ rd_tv c n 0 5 q = c q.2 := by
      intro z
      rcases rd_tk_or c n 0 5 q with ⟨e1, a⟩ | e1
      · exact ⟨a.1, e1, if_pos a⟩
      · rw [e1] at z; exact ff_t z
    refine yr_take C q hq 0 5 (by omega) (by omega) ?_
    refine ⟨pk_in m 3 h3 hm, nm_r (show _ = upd y_entries m (nI (rd_tv c n 0 5 q)) from by rw [em, nr_b (by omega)]) ⟨pk_in m 3 h3 hm, nm_r (show _ = upd y_entriesAt m (nI (rd_tk c n 0 5 q).2) from by rw [em, nr_s (by omega)]) ⟨rd_tv c n 0 5 q + 1, ?_⟩⟩⟩
    refine ym_411 C (rd_tv c n 0 5 q) fn v1 hfn pk_us efn (rd_tv c n 0 5 q) 0 _ (rd_tk c n 0 5 q) y_least S (Nat.zero_add _) (by omega) g1.2 (fun y => hL (ok y).1) (fun L' H' M' f1 f2 f3 => ?_)
    refine h k L' GK GF GV _ _ H' M' (fun _ _ => rfl) (fun _ _ => rfl) (fun _ _ => rfl) (fun j hj => pk_un hj) (fun j hj => pk_un hj) f1 f2 (fun y => ?_)
    have yt : (rd_tk c n 0 5 q).1 = true := by
      have a := (rd_e_ok y).1
      have b : (rd_n c n 0 255 (rd_tv c n 0 5 q) (rd_tk c n 0 5 q)).1 = true := by
        cases e : (rd_n c n 0 255 (rd_tv c n 0 5 q) (rd_tk c n 0 5 q)).1 with
        | true => rfl
        | false =>
          rw [rd_M, rd_tv_f e, if_neg (by decide), rd_tk_f e] at a
          exact ff_t a
      exact rd_G_tr (rd_G_n c n 0 255 _) b
    obtain ⟨o1, o2, o3⟩ := ok yt
    obtain ⟨y1, y2, y3⟩ := f3 y
    rw [o2, o3] at y1 y2 y3
    refine ⟨fun g hg => absurd hg (by omega), by rw [pk_us, o3], by rw [pk_us, o2], by omega, y1, y2, y3⟩
  | succ r ih =>
    intro i l q k GK GF GV hi hl hq hL h
    obtain ⟨l, rfl⟩ : ∃ j, l = j + 1 := ⟨l - 1, by omega⟩
    rw [rd_it] at h
    refine ⟨pk_in m 3 h3 hm, pk_le G i (fun z => absurd z (by omega)) (fun _ => ?_) eG' rfl⟩
    have g1 := (rd_G_tk c n 1 2).1 q hq
    have g2 := (rd_G_tk c n 0 1).1 _ g1.2
    have g3 := (rd_G_g c n).1 q hq
    have v1 := (rd_tv_le (c := c) (n := n) (lo := 1) (hi := 2) (q := q) (by omega)).2
    have v2 := (rd_tv_le (c := c) (n := n) (lo := 0) (hi := 1) (q := rd_tk c n 1 2 q) (by omega)).2
    have ei : 3 * y_m + nI i = nI (3 * m + i) := by rw [hm, show (3 : Int32) = nI 3 from rfl, pk_mul, nI_add]
    refine yr_take C q hq 1 2 (by omega) (by omega) ?_
    refine ⟨pk_in (3 * m + i) 9 (by omega) ei, nm_r (show _ = upd GK (3 * m + i) (nI (rd_tv c n 1 2 q)) from by rw [pk_cl (3 * m + i) ei, nr_b (by omega)]) ?_⟩
    refine yr_take C _ g1.2 0 1 (by omega) (by omega) ?_
    have k338 : ∀ z : Nat, z = rd_tv c n 0 1 (rd_tk c n 1 2 q) → wY_read_338 post (wY_read_278 post l) (nI i) (nI z) (3 * y_m + nI i) y_count y_place y_m (nI (rd_tk c n 0 1 (rd_tk c n 1 2 q)).2) (bb_w (rd_tk c n 0 1 (rd_tk c n 1 2 q)).1) k y_least y_top y_frames y_invalid y_sp y_labels y_active y_fuel y_outcome y_trappedAt y_result y_used y_waits y_printed y_bytes y_there y_types y_typeSig y_imports y_functions y_sig y_what y_typeAt y_localsAt y_globals (upd GK (3 * m + i) (nI (rd_tv c n 1 2 q))) GF GV y_entries y_entriesAt y_hasMemory y_memory y_nest y_kinds y_shape y_gives y_height y_dead y_stack y_labelAt y_labelHeight y_labelGives y_callModule y_callFunction y_callBack y_callBase y_callLabels y_waiting y_prints := by
      intro z hz
      refine ⟨pk_in (3 * m + i) 9 (by omega) ei, nm_r (show _ = upd GF (3 * m + i) (nI z) from by
        rw [pk_cl (3 * m + i) ei]
        have : z = 0 ∨ z = 1 := by omega
        rcases this with rfl | rfl <;> rfl) ⟨pk_in (3 * m + i) 9 (by omega) ei, ?_⟩⟩
      have eK : upd GK (3 * m + i) (nI (rd_tv c n 1 2 q)) (3 * y_m + nI i).toNatClampNeg = nI (rd_tv c n 1 2 q) := by rw [pk_cl (3 * m + i) ei]; exact pk_us
      show wpY_takeConstant _ _ (upd GK (3 * m + i) (nI (rd_tv c n 1 2 q)) (3 * y_m + nI i).toNatClampNeg)
      rw [eK]
      refine yr_const C (rd_tv c n 1 2 q) (by omega) _ g2.2 (fun k' hk' => ?_)
      refine ⟨pk_in (3 * m + i) 9 (by omega) ei, nm_r (show _ = vp_updL GV (3 * m + i) k' from by rw [pk_cl (3 * m + i) ei]) (nm_r (nI_1 i) ?_)⟩
      have eg : rd_C c n (if rd_tv c n 1 2 q = 1 then 5 else 10) (rd_tk c n 0 1 (rd_tk c n 1 2 q)) = rd_g c n q := rfl
      rw [eg] at hk' ⊢
      refine ih (i + 1) l (rd_g c n q) k' _ _ _ (by omega) (by omega) g3.2 (fun y => hL (rd_G_tr (rd_G_g c n) y)) (fun k2 L2 GK2 GF2 GV2 EN EA H2 M2 f1 f2 f3 f4 f5 f6 f7 f8 => h k2 L2 GK2 GF2 GV2 EN EA H2 M2 (fun j hj => (f1 j (by omega)).trans (pk_un (by omega))) (fun j hj => (f2 j (by omega)).trans (pk_un (by omega))) (fun j hj => (f3 j (by omega)).trans (pk_uLn (by omega))) f4 f5 f6 f7 (fun y => ?_))
      obtain ⟨y1, y2⟩ := f8 y
      refine ⟨fun g hg => ?_, y2⟩
      have yt : (rd_g c n q).1 = true := by
        have a := (rd_e_ok y).1
        have b : (rd_n c n 0 255 (rd_tv c n 0 5 (rd_it (rd_g c n) r (rd_g c n q))) (rd_tk c n 0 5 (rd_it (rd_g c n) r (rd_g c n q)))).1 = true := by
          cases e : (rd_n c n 0 255 (rd_tv c n 0 5 (rd_it (rd_g c n) r (rd_g c n q))) (rd_tk c n 0 5 (rd_it (rd_g c n) r (rd_g c n q)))).1 with
          | true => rfl
          | false =>
            rw [rd_M, rd_tv_f e, if_neg (by decide), rd_tk_f e] at a
            exact ff_t a
        exact rd_G_tr (rd_G_it (rd_G_g c n) r) (rd_G_tr (rd_G_tk c n 0 5) (rd_G_tr (rd_G_n c n 0 255 _) b))
      obtain ⟨o1, o2, o3, o4, o5, o6, o7, o8⟩ := rd_g_ok yt
      cases g with
      | zero =>
        refine ⟨?_, ?_, ?_⟩
        · rw [Nat.add_zero, f1 _ (by omega), pk_us, o3]; rfl
        · rw [Nat.add_zero, f2 _ (by omega), pk_us, hz, o7]; rfl
        · rw [Nat.add_zero, f3 _ (by omega), pk_uLs, hk' yt, o6, o3]; rfl
      | succ g =>
        have := y1 g (by omega)
        rw [show i + (g + 1) = i + 1 + g by omega]
        exact this
    refine pk_eq (rd_tv c n 0 1 (rd_tk c n 1 2 q)) 1 (fun z => k338 1 z.symm) (fun z => k338 0 (by omega))
end
