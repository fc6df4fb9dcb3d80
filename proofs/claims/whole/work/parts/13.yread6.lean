def rd_Y (c : Nat → Nat) (n : Nat) (q : Bool × Nat) : Bool × Nat := rd_Z c n (rd_it (rd_F c n) (rd_tv c n 0 4 q) (rd_tk c n 0 4 q))
def rd_X (c : Nat → Nat) (n : Nat) (q : Bool × Nat) : Bool × Nat := rd_Y c n (rd_it (rd_J c n) (rd_tv c n 0 3 q) (rd_tk c n 0 3 q))
def rd_V (c : Nat → Nat) (n : Nat) : Bool × Nat := rd_X c n (rd_it (rd_T c n) (rd_tv c n 0 4 (true, 0)) (rd_tk c n 0 4 (true, 0)))
theorem rd_tk_ok {c : Nat → Nat} {n lo hi : Nat} {q : Bool × Nat} (h : (rd_tk c n lo hi q).1 = true) : q.1 = true ∧ rd_tk c n lo hi q = (true, q.2 + 1) ∧ rd_tv c n lo hi q = c q.2 ∧ lo ≤ c q.2 ∧ c q.2 ≤ hi ∧ q.2 < n := by
  rcases rd_tk_or c n lo hi q with ⟨e1, a⟩ | e1
  · exact ⟨a.1, e1, if_pos a, a.2.2.1, a.2.2.2, a.2.1⟩
  · rw [e1] at h; exact ff_t h
theorem rd_Y_ok {c : Nat → Nat} {n : Nat} {q : Bool × Nat} (h : (rd_Y c n q).1 = true) : q.1 = true ∧ rd_tk c n 0 4 q = (true, q.2 + 1) ∧ rd_tv c n 0 4 q = c q.2 ∧ c q.2 ≤ 4 ∧ (rd_it (rd_F c n) (rd_tv c n 0 4 q) (rd_tk c n 0 4 q)).1 = true := by
  have a := (rd_Z_ok h).1
  obtain ⟨b1, b2, b3, b4, b5, b6⟩ := rd_tk_ok (rd_G_tr (rd_G_it (rd_G_F c n) _) a)
  exact ⟨b1, b2, b3, b5, a⟩
theorem rd_X_ok {c : Nat → Nat} {n : Nat} {q : Bool × Nat} (h : (rd_X c n q).1 = true) : q.1 = true ∧ rd_tk c n 0 3 q = (true, q.2 + 1) ∧ rd_tv c n 0 3 q = c q.2 ∧ c q.2 ≤ 3 ∧ (rd_it (rd_J c n) (rd_tv c n 0 3 q) (rd_tk c n 0 3 q)).1 = true := by
  have a := (rd_Y_ok h).1
  obtain ⟨b1, b2, b3, b4, b5, b6⟩ := rd_tk_ok (rd_G_tr (rd_G_it (rd_G_J c n) _) a)
  exact ⟨b1, b2, b3, b5, a⟩
def f2_ok (m : Nat) (c : Nat → Nat) (n nT I : Nat) (ty : Nat → Nat) (S : Nat → Prop) (p : Nat) (L : Int32) (FU SI TA LA GL GK GF : Nat → Int32) (GV : Nat → Int64) (EN EA H M : Nat → Int32) : Prop :=
  FU m = nI (I + c p) ∧ c p ≤ 4 ∧ fn_ok m c n nT ty I (c p) (true, p + 1) SI TA LA ∧
  tl_ok m c n (I + c p) (fun x => S x ∨ ft_S c nT (rd_F c n) (c p) (true, p + 1) x) (rd_it (rd_F c n) (c p) (true, p + 1)).2 L GL GK GF GV EN EA H M
def im_ok (m : Nat) (c : Nat → Nat) (n nT : Nat) (ty : Nat → Nat) (i r : Nat) (q : Bool × Nat) (SI TA WH : Nat → Int32) : Prop :=
  ∀ g, g < r → SI (7 * m + (i + g)) = sg_i c nT ty (rd_it (rd_J c n) g q).2 ∧ TA (7 * m + (i + g)) = nI (rd_it (rd_J c n) g q).2 ∧ WH (3 * m + (i + g)) = nI (c ((rd_it (rd_J c n) g q).2 + 1))
section
variable {y_count y_place y_m y_pos y_wrong y_least y_top y_frames y_invalid y_sp y_labels y_active y_fuel y_outcome y_trappedAt y_used y_waits y_printed : Int32} {y_constant y_result : Int64} {y_bytes y_there y_types y_typeSig y_imports y_functions y_sig y_what y_typeAt y_localsAt y_globals y_globalKind y_globalFree y_entries y_entriesAt y_hasMemory y_memory y_nest y_kinds y_shape y_gives y_height y_dead y_labelAt y_labelHeight y_labelGives y_callModule y_callFunction y_callBack y_callBase y_callLabels y_waiting y_prints : Nat → Int32} {y_globalValue y_stack : Nat → Int64}
variable {m : Nat} {c : Nat → Nat} {n p : Nat}
theorem y_95 {post : SY → Prop} (C : cy_ok y_count y_m y_bytes m c n) (I nT : Nat) (hI : I ≤ 3) (hT : nT ≤ 4) (eI : y_imports m = nI I) (eT : y_types m = nI nT) (ty : Nat → Nat) (b0 : Bool) (hts : b0 = true → ∀ t, t < nT → y_typeSig (4 * m + t) = nI (sg c (ty t)) ∧ sg c (ty t) < 1024) :
    ∀ r i l (q : Bool × Nat) (L : Int32) (SI TA WH : Nat → Int32) (S : Nat → Prop), i + r = I → r < l → q.2 ≤ n → (q.1 = true → b0 = true) → (q.1 = true → lm L S) →
    (∀ k' L' FU SI' TA' LA' WH' NE' GL GK GF GV EN EA H M, fr_i (7 * m + i) (7 * m + 7) SI SI' → fr_i (7 * m + i) (7 * m + 7) TA TA' → fr_i (7 * m) (7 * m + 7) y_localsAt LA' → fr_i (3 * m + i) (3 * m + 3) WH WH' → (∀ j, j ≠ m → FU j = y_functions j) →
      tl_fr m y_globals y_globalKind y_globalFree y_globalValue y_entries y_entriesAt y_hasMemory y_memory GL GK GF GV EN EA H M →
      ((rd_Y c n (rd_it (rd_J c n) r q)).1 = true → im_ok m c n nT ty i r q SI' TA' WH' ∧ f2_ok m c n nT I ty (fun x => S x ∨ ft_S c nT (rd_J c n) r q x) (rd_it (rd_J c n) r q).2 L' FU SI' TA' LA' GL GK GF GV EN EA H M) →
      post (y_count, y_place, y_m, nI (rd_Y c n (rd_it (rd_J c n) r q)).2, bb_w (rd_Y c n (rd_it (rd_J c n) r q)).1, k', L', y_top, y_frames, y_invalid, y_sp, y_labels, y_active, y_fuel, y_outcome, y_trappedAt, y_result, y_used, y_waits, y_printed, y_bytes, y_there, y_types, y_typeSig, y_imports, FU, SI', WH', TA', LA', GL, GK, GF, GV, EN, EA, H, M, NE', y_kinds, y_shape, y_gives, y_height, y_dead, y_stack, y_labelAt, y_labelHeight, y_labelGives, y_callModule, y_callFunction, y_callBack, y_callBase, y_callLabels, y_waiting, y_prints)) →
    wY_read_95 post l (nI i) y_count y_place y_m (nI q.2) (bb_w q.1) y_constant L y_top y_frames y_invalid y_sp y_labels y_active y_fuel y_outcome y_trappedAt y_result y_used y_waits y_printed y_bytes y_there y_types y_typeSig y_imports y_functions SI WH TA y_localsAt y_globals y_globalKind y_globalFree y_globalValue y_entries y_entriesAt y_hasMemory y_memory y_nest y_kinds y_shape y_gives y_height y_dead y_stack y_labelAt y_labelHeight y_labelGives y_callModule y_callFunction y_callBack y_callBase y_callLabels y_waiting y_prints := by
  obtain ⟨hn, h140, hm, h3, hb, h256⟩ := id C
  have em : y_m.toNatClampNeg = m := by rw [hm]; exact nI_clamp (by omega)
  have eI' : y_imports y_m.toNatClampNeg = nI I := by rw [em]; exact eI
  intro r
  induction r with
  | zero =>
    intro i l q L SI TA WH S hi hl hq hb0 hL h
    obtain ⟨l, rfl⟩ : ∃ j, l = j + 1 := ⟨l - 1, by omega⟩
    rw [show rd_it (rd_J c n) 0 q = q from rfl] at h
    refine ⟨pk_in m 3 h3 hm, pk_le I i (fun _ => ⟨pk_in m 3 h3 hm, ?_⟩) (fun z => absurd z (by omega)) eI' rfl⟩
    have g1 := (rd_G_tk c n 0 4).1 q hq
    have v1 := (rd_tv_le (c := c) (n := n) (lo := 0) (hi := 4) (q := q) (by omega)).2
    refine yr_take C q hq 0 4 (by omega) (by omega) ?_
    have eN : y_imports y_m.toNatClampNeg + nI (rd_tv c n 0 4 q) = nI (I + rd_tv c n 0 4 q) := by rw [eI', nI_add]
    refine ⟨pk_in m 3 h3 hm, nm_r (show _ = upd y_functions m (nI (I + rd_tv c n 0 4 q)) from by rw [em] at eN ⊢; rw [eN, nr_b (by omega)]) ⟨pk_in m 3 h3 hm, nm_r eI' ⟨rd_tv c n 0 4 q + 1, ?_⟩⟩⟩
    refine y_177 C (I + rd_tv c n 0 4 q) nT (by omega) hT pk_us eT ty b0 hts (rd_tv c n 0 4 q) I _ (rd_tk c n 0 4 q) _ _ _ _ _ _ S rfl (by omega) g1.2 (fun y => hb0 (rd_G_tr (rd_G_tk c n 0 4) y)) (fun y => hL (rd_G_tr (rd_G_tk c n 0 4) y)) (fun k' L' SI' TA' LA' NE' GL GK GF GV EN EA H M f1 f2 f3 f4 f5 => ?_)
    refine h k' L' _ SI' TA' LA' WH NE' GL GK GF GV EN EA H M (fun j hj => f1 j (by omega)) (fun j hj => f2 j (by omega)) (fun j hj => f3 j (by omega)) (fun _ _ => rfl) (fun j hj => pk_un hj) f4 (fun y => ?_)
    obtain ⟨o1, o2, o3, o4, o5⟩ := rd_Y_ok y
    obtain ⟨y1, y2⟩ := f5 y
    rw [o2, o3] at y1 y2
    refine ⟨fun g hg => absurd hg (by omega), by rw [pk_us, o3], o4, y1, ?_⟩
    obtain ⟨z1, z2, z3, z4, z5, z6, z7, z8, z9⟩ := y2
    refine ⟨z1, z2, z3, z4, z5, z6, z7, lm_ext z8 (fun x => ⟨fun a => a.imp (fun b => b.imp (fun d => d.imp Or.inl id) id) id, fun a => a.imp (fun b => b.imp (fun d => d.imp (fun e => e.elim id (fun ⟨g, hg, _⟩ => absurd hg (by omega))) id) id) id⟩), z9⟩
  | succ r ih =>
    intro i l q L SI TA WH S hi hl hq hb0 hL h
    obtain ⟨l, rfl⟩ : ∃ j, l = j + 1 := ⟨l - 1, by omega⟩
    rw [rd_it] at h
    have g1 := (rd_G_tk c n 0 255).1 q hq
    have g2 := (rd_G_tk c n 0 255).1 _ g1.2
    have v2 := (rd_tv_le (c := c) (n := n) (lo := 0) (hi := 255) (q := rd_tk c n 0 255 q) (by omega)).2
    have ei : 3 * y_m + nI i = nI (3 * m + i) := by rw [hm, show (3 : Int32) = nI 3 from rfl, pk_mul, nI_add]
    refine ⟨pk_in m 3 h3 hm, pk_le I i (fun z => absurd z (by omega)) (fun _ => ?_) eI' rfl⟩
    refine yf_type C i nT (by omega) hT eT ty S q hq (fun y => hts (hb0 y)) hL (fun L1 s1 hs1 => ?_)
    refine yr_take C _ g1.2 0 255 (by omega) (by omega) ?_
    refine ⟨pk_in (3 * m + i) 9 (by omega) ei, nm_r (show _ = upd WH (3 * m + i) (nI (rd_tv c n 0 255 (rd_tk c n 0 255 q))) from by rw [pk_cl (3 * m + i) ei, nr_s (by omega)]) (nm_r (nI_1 i) ?_)⟩
    have eJ : rd_tk c n 0 255 (rd_tk c n 0 255 q) = rd_J c n q := rfl
    rw [eJ]
    refine ih (i + 1) l (rd_J c n q) L1 _ _ _ (fun x => S x ∨ (nT ≤ c q.2 ∧ x = q.2)) (by omega) (by omega) g2.2 (fun y => hb0 (rd_G_tr (rd_G_J c n) y)) (fun y => (hs1 (rd_G_tr (rd_G_tk c n 0 255) y)).2) (fun k2 L2 FU SI2 TA2 LA2 WH2 NE2 GL GK GF GV EN EA H M f1 f2 f3 f4 f5 f6 f7 => ?_)
    refine h k2 L2 FU SI2 TA2 LA2 WH2 NE2 GL GK GF GV EN EA H M (fun j hj => (f1 j (by omega)).trans (pk_un (by omega))) (fun j hj => (f2 j (by omega)).trans (pk_un (by omega))) f3 (fun j hj => (f4 j (by omega)).trans (pk_un (by omega))) f5 f6 (fun y => ?_)
    have yJ := rd_G_tr (rd_G_it (rd_G_J c n) r) (rd_Y_ok y).1
    obtain ⟨p1, p2, p3, _⟩ := rd_tk_ok (show (rd_tk c n 0 255 (rd_tk c n 0 255 q)).1 = true from yJ)
    obtain ⟨o1, o2, o3, _⟩ := rd_tk_ok p1
    obtain ⟨y1, y2⟩ := f7 y
    obtain ⟨s2, s3⟩ := hs1 p1
    refine ⟨fun g hg => ?_, ?_⟩
    · cases g with
      | zero =>
        refine ⟨?_, ?_, ?_⟩
        · rw [Nat.add_zero, f1 _ (by omega), pk_us, s2]; rfl
        · rw [Nat.add_zero, f2 _ (by omega), pk_us]; rfl
        · rw [Nat.add_zero, f4 _ (by omega), pk_us, p3, o2]; rfl
      | succ g =>
        have := y1 g (by omega)
        rw [show i + (g + 1) = i + 1 + g by omega]
        exact this
    · obtain ⟨w1, w2, w3, z1, z2, z3, z4, z5, z6, z7, z8, z9⟩ := y2
      refine ⟨w1, w2, w3, z1, z2, z3, z4, z5, z6, z7, lm_ext z8 (fun x => ⟨?_, ?_⟩), z9⟩
      · rintro (((((a | ⟨a, rfl⟩) | ⟨g, a1, a2, a3⟩) | a) | a) | a)
        · exact Or.inl (Or.inl (Or.inl (Or.inl a)))
        · exact Or.inl (Or.inl (Or.inl (Or.inr ⟨0, by omega, rfl, a⟩)))
        · exact Or.inl (Or.inl (Or.inl (Or.inr ⟨g + 1, by omega, a2, a3⟩)))
        · exact Or.inl (Or.inl (Or.inr a))
        · exact Or.inl (Or.inr a)
        · exact Or.inr a
      · rintro ((((a | ⟨g, a1, a2, a3⟩) | a) | a) | a)
        · exact Or.inl (Or.inl (Or.inl (Or.inl (Or.inl a))))
        · cases g with
          | zero =>
            have a2' : x = q.2 := a2
            subst a2'
            exact Or.inl (Or.inl (Or.inl (Or.inl (Or.inr ⟨a3, rfl⟩))))
          | succ g => exact Or.inl (Or.inl (Or.inl (Or.inr ⟨g, by omega, a2, a3⟩)))
        · exact Or.inl (Or.inl (Or.inr a))
        · exact Or.inl (Or.inr a)
        · exact Or.inr a
def i2_ok (m : Nat) (c : Nat → Nat) (n nT : Nat) (ty : Nat → Nat) (p : Nat) (L : Int32) (IM FU SI WH TA LA GL GK GF : Nat → Int32) (GV : Nat → Int64) (EN EA H M : Nat → Int32) : Prop :=
  IM m = nI (c p) ∧ c p ≤ 3 ∧ im_ok m c n nT ty 0 (c p) (true, p + 1) SI TA WH ∧
  f2_ok m c n nT (c p) ty (ft_S c nT (rd_J c n) (c p) (true, p + 1)) (rd_it (rd_J c n) (c p) (true, p + 1)).2 L FU SI TA LA GL GK GF GV EN EA H M
def i2_fr (m : Nat) (IM FU SI WH TA LA IM' FU' SI' WH' TA' LA' : Nat → Int32) : Prop :=
  (∀ j, j ≠ m → IM' j = IM j) ∧ (∀ j, j ≠ m → FU' j = FU j) ∧ fr_i (7 * m) (7 * m + 7) SI SI' ∧ fr_i (3 * m) (3 * m + 3) WH WH' ∧ fr_i (7 * m) (7 * m + 7) TA TA' ∧ fr_i (7 * m) (7 * m + 7) LA LA'
theorem y_40 {post : SY → Prop} (C : cy_ok y_count y_m y_bytes m c n) (nT : Nat) (hT : nT ≤ 4) (eT : y_types m = nI nT) (eL : y_least = nI 1000) (ty : Nat → Nat) :
    ∀ r i l (q : Bool × Nat) (k : Int64) (TS : Nat → Int32), i + r = nT → r < l → q.2 ≤ n → (∀ g, g < r → ty (i + g) = (rd_it (rd_T c n) g q).2) → (q.1 = true → ∀ t, t < i → TS (4 * m + t) = nI (sg c (ty t)) ∧ sg c (ty t) < 1024) →
    (∀ k' L' TS' IM FU SI TA LA WH NE GL GK GF GV EN EA H M, fr_i (4 * m + i) (4 * m + 4) TS TS' → i2_fr m y_imports y_functions y_sig y_what y_typeAt y_localsAt IM FU SI WH TA LA →
      tl_fr m y_globals y_globalKind y_globalFree y_globalValue y_entries y_entriesAt y_hasMemory y_memory GL GK GF GV EN EA H M →
      ((rd_X c n (rd_it (rd_T c n) r q)).1 = true → (∀ t, t < nT → TS' (4 * m + t) = nI (sg c (ty t)) ∧ sg c (ty t) < 1024) ∧ i2_ok m c n nT ty (rd_it (rd_T c n) r q).2 L' IM FU SI WH TA LA GL GK GF GV EN EA H M) →
      post (y_count, y_place, y_m, nI (rd_X c n (rd_it (rd_T c n) r q)).2, bb_w (rd_X c n (rd_it (rd_T c n) r q)).1, k', L', y_top, y_frames, y_invalid, y_sp, y_labels, y_active, y_fuel, y_outcome, y_trappedAt, y_result, y_used, y_waits, y_printed, y_bytes, y_there, y_types, TS', IM, FU, SI, WH, TA, LA, GL, GK, GF, GV, EN, EA, H, M, NE, y_kinds, y_shape, y_gives, y_height, y_dead, y_stack, y_labelAt, y_labelHeight, y_labelGives, y_callModule, y_callFunction, y_callBack, y_callBase, y_callLabels, y_waiting, y_prints)) →
    wY_read_40 post l (nI i) y_count y_place y_m (nI q.2) (bb_w q.1) k y_least y_top y_frames y_invalid y_sp y_labels y_active y_fuel y_outcome y_trappedAt y_result y_used y_waits y_printed y_bytes y_there y_types TS y_imports y_functions y_sig y_what y_typeAt y_localsAt y_globals y_globalKind y_globalFree y_globalValue y_entries y_entriesAt y_hasMemory y_memory y_nest y_kinds y_shape y_gives y_height y_dead y_stack y_labelAt y_labelHeight y_labelGives y_callModule y_callFunction y_callBack y_callBase y_callLabels y_waiting y_prints := by
  obtain ⟨hn, h140, hm, h3, hb, h256⟩ := id C
  have em : y_m.toNatClampNeg = m := by rw [hm]; exact nI_clamp (by omega)
  have eT' : y_types y_m.toNatClampNeg = nI nT := by rw [em]; exact eT
  intro r
  induction r with
  | zero =>
    intro i l q k TS hi hl hq hty hts h
    obtain ⟨l, rfl⟩ : ∃ j, l = j + 1 := ⟨l - 1, by omega⟩
    rw [show rd_it (rd_T c n) 0 q = q from rfl] at h
    have hi' : i = nT := by omega
    subst hi'
    refine ⟨pk_in m 3 h3 hm, pk_le i i (fun _ => ?_) (fun z => absurd z (by omega)) eT' rfl⟩
    have g1 := (rd_G_tk c n 0 3).1 q hq
    have v1 := (rd_tv_le (c := c) (n := n) (lo := 0) (hi := 3) (q := q) (by omega)).2
    refine yr_take C q hq 0 3 (by omega) (by omega) ?_
    refine ⟨pk_in m 3 h3 hm, nm_r (show _ = upd y_imports m (nI (rd_tv c n 0 3 q)) from by rw [em, nr_b (by omega)]) ⟨rd_tv c n 0 3 q + 1, ?_⟩⟩
    refine y_95 C (rd_tv c n 0 3 q) i v1 hT pk_us eT ty q.1 hts (rd_tv c n 0 3 q) 0 _ (rd_tk c n 0 3 q) _ _ _ _ (fun _ => False) (Nat.zero_add _) (by omega) g1.2 (fun y => rd_G_tr (rd_G_tk c n 0 3) y) (fun _ => ⟨1000, eL, by omega, Or.inl rfl, fun x hx => hx.elim⟩) (fun k' L' FU SI' TA' LA' WH' NE' GL GK GF GV EN EA H M f1 f2 f3 f4 f5 f6 f7 => ?_)
    refine h k' L' TS _ FU SI' TA' LA' WH' NE' GL GK GF GV EN EA H M (fun _ _ => rfl) ⟨fun j hj => pk_un hj, f5, f1, f4, f2, f3⟩ f6 (fun y => ?_)
    obtain ⟨o1, o2, o3, o4, o5⟩ := rd_X_ok y
    obtain ⟨y1, y2⟩ := f7 y
    rw [o2, o3] at y1 y2
    refine ⟨hts o1, by rw [pk_us, o3], o4, y1, ?_⟩
    obtain ⟨w1, w2, w3, z1, z2, z3, z4, z5, z6, z7, z8, z9⟩ := y2
    exact ⟨w1, w2, w3, z1, z2, z3, z4, z5, z6, z7, lm_ext z8 (fun x => by simp only [false_or]), z9⟩
  | succ r ih =>
    intro i l q k TS hi hl hq hty hts h
    obtain ⟨l, rfl⟩ : ∃ j, l = j + 1 := ⟨l - 1, by omega⟩
    rw [rd_it] at h
    refine ⟨pk_in m 3 h3 hm, pk_le nT i (fun z => absurd z (by omega)) (fun _ => ?_) eT' rfl⟩
    have ei : 4 * y_m + nI i = nI (4 * m + i) := by rw [hm, show (4 : Int32) = nI 4 from rfl, pk_mul, nI_add]
    have gT := (rd_G_T c n).1 q hq
    refine yr_type C q hq (fun s' hs' => ?_)
    refine ⟨pk_in (4 * m + i) 12 (by omega) ei, nm_r (show _ = upd TS (4 * m + i) (vp_nar .short s'.toInt16.toInt32) from by rw [pk_cl (4 * m + i) ei]) (nm_r (nI_1 i) ?_)⟩
    have e0 := hty 0 (by omega)
    rw [Nat.add_zero] at e0
    refine ih (i + 1) l (rd_T c n q) k _ (by omega) (by omega) gT.2 (fun g hg => by rw [show i + 1 + g = i + (g + 1) by omega]; exact hty (g + 1) (by omega)) (fun y t ht => ?_) (fun k' L' TS' IM FU SI TA LA WH NE GL GK GF GV EN EA H M f1 f2 f3 f4 => h k' L' TS' IM FU SI TA LA WH NE GL GK GF GV EN EA H M (fun j hj => (f1 j (by omega)).trans (pk_un (by omega))) f2 f3 f4)
    obtain ⟨a1, a2, a3, a4⟩ := rd_T_ok y
    have a5 := sg_lt a2
    by_cases z : t = i
    · subst z
      rw [pk_us, hs' y, nr_s (by omega), e0]
      exact ⟨rfl, a5⟩
    · rw [pk_un (by omega)]
      exact hts a1 t (by omega)
end
