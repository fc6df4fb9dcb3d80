theorem rl_slot {k : Nat} {u : SX} {v : SY} (I : i_Rel k u v) (s : Nat) (hs : s < 2) : ∃ b c n P, gx_loaded u s = bb_i b ∧ gy_there v s = bb_i b ∧ (b = true → sl_ok s c n P (gx_code u) (gx_facts u) (gx_partner u) (gx_globals u) (gx_memories u) (gy_bytes v) (gy_types v) (gy_typeSig v) (gy_imports v) (gy_functions v) (gy_sig v) (gy_what v) (gy_localsAt v) (gy_globals v) (gy_globalValue v) (gy_entries v) (gy_entriesAt v) (gy_hasMemory v) (gy_memory v)) := by
  obtain ⟨n, cd, b0, b1, c0, n0, P0, c1, n1, P1, h1, h2, h3, h4, h5, h6, h7, h8, h9, h10, h11, h12, h13, h14, h15, h16, h17, h18⟩ := I
  have : s = 0 ∨ s = 1 := by omega
  rcases this with rfl | rfl
  · exact ⟨b0, c0, n0, P0, h13, h14, fun q => (h17 q).1⟩
  · exact ⟨b1, c1, n1, P1, h15, h16, fun q => (h18 q).1⟩
theorem sb_255 : ∀ b, b < 256 → sb_v b &&& 255 = nI b := by decide +kernel
theorem sl_case (v1 : Int32) : (∃ s, s < 2 ∧ v1 = nI s) ∨ (¬ v1 = 0 ∧ ¬ v1 = 1 ∧ (v1 < 0 ∨ (¬ v1 < 0 ∧ 1 < v1))) := by
  by_cases z : v1 < 0
  · exact Or.inr ⟨fun q => by subst q; exact absurd z (by decide), fun q => by subst q; exact absurd z (by decide), Or.inl z⟩
  · obtain ⟨j, hj, rfl⟩ := nI_of z
    by_cases z2 : j < 2
    · exact Or.inl ⟨j, z2, rfl⟩
    · exact Or.inr ⟨fun q => by have := (nI_eq (b := 0) hj (by decide)).mp q; omega, fun q => by have := (nI_eq (b := 1) hj (by decide)).mp q; omega, Or.inr ⟨z, nI_lt (a := 1) (by omega) hj⟩⟩
theorem xs_1 {post : Int32 → Prop} {s : Nat} (hs : s < 2) (h : post 1) : wpX_isSlot post (nI s) := by
  have : s = 0 ∨ s = 1 := by omega
  rcases this with rfl | rfl
  · exact br_t rfl h
  · exact br_f (by decide) (br_t rfl h)
theorem i_vc_memory {k : Nat} {u : SX} {v : SY} (I : i_Rel k u v) (hk : k + 9 ≤ 4608) (v1 : Int32) (v2 : Int32) : wpX_memory (fun r => wpY_memory (fun r' => r' = r ∧ i_Rel (k + 9) u v) v v1 v2) u v1 v2 := by
  unfold wpX_memory
  rcases sl_case v1 with ⟨s, hs, rfl⟩ | ⟨z0, z1, z2⟩
  · obtain ⟨b, c, n, P, e1, e2, e3⟩ := rl_slot I s hs
    have eX : gx_loaded u (nI s).toNatClampNeg = bb_i b := by rw [pk_cl s]; exact e1
    have eY : gy_there v (nI s).toNatClampNeg = bb_i b := by rw [pk_cl s]; exact e2
    have ny : ∀ {r : Int32}, _ → wpY_memory (fun r' => r' = r ∧ i_Rel (k + 9) u v) v (nI s) v2 := fun h => br_f (nI_pos (by omega)) (br_f (nI_nlt (b := s) (a := 1) (by omega) (by decide)) ⟨pk_in s 3 (by omega), h⟩)
    refine xs_1 hs (br_f (by decide) ⟨pk_in s 2 hs, ?_⟩)
    cases b with
    | false => exact br_t eX (ny (br_t eY ⟨rfl, I⟩))
    | true =>
      obtain ⟨⟨a1, a2, a3, a4⟩, ⟨b1, b2, b3⟩, ⟨d1, d2, d3, d4, d5, d6, d7, d8, d9, d10, d11, d12⟩, ⟨f1, f2⟩⟩ := e3 rfl
      obtain ⟨mp, _⟩ := mp_of a2
      have hm1 : c (tl_m c n (m_pG c n)) ≤ 1 := mp.2.2.2.2.2.2.2.2.2.1
      have eH : gy_hasMemory v (nI s).toNatClampNeg = nI (c (tl_m c n (m_pG c n))) := by rw [pk_cl s]; exact d12
      have nt : ¬ gy_there v (nI s).toNatClampNeg = 0 := by rw [eY]; decide
      have nX : ¬ gx_loaded u (nI s).toNatClampNeg = 0 := by rw [eX]; decide
      refine br_f nX ?_
      refine xx_fact (m := s) (w := 5) (z := nI (c (tl_m c n (m_pG c n)))) (by exact b2.2.2.2.2.2.1) (by omega) (by omega) ?_
      have ny2 : ∀ {r : Int32}, _ → wpY_memory (fun r' => r' = r ∧ i_Rel (k + 9) u v) v (nI s) v2 := fun h => ny (br_f nt ⟨pk_in s 3 (by omega), h⟩)
      refine pk_eq (c (tl_m c n (m_pG c n))) 0 (fun z => ny2 (br_t (eH.trans (by rw [z]; rfl)) ⟨rfl, I⟩)) (fun z => ?_)
      have nh : ¬ gy_hasMemory v (nI s).toNatClampNeg = 0 := by rw [eH]; exact nI_ne0 (by omega) (by omega)
      refine br_c (fun y => ny2 (br_f nh (br_t y ⟨rfl, I⟩))) (fun y => ?_)
      obtain ⟨j, hj, rfl⟩ := nI_of y
      refine pk_lt j 48 (fun q => ?_) (fun q => ny2 (br_f nh (br_f y (br_f (fun x => by have x' : nI j ≤ nI 47 := x; rw [nI_leI hj (by decide)] at x'; omega) ⟨rfl, I⟩))))
      have ex : nI s * 48 + nI j = nI (s * 48 + j) := by rw [show (48 : Int32) = nI 48 from rfl, pk_mul, nI_add]
      have ey : 48 * nI s + nI j = nI (48 * s + j) := by rw [show (48 : Int32) = nI 48 from rfl, pk_mul, nI_add]
      refine ⟨pk_in (s * 48 + j) 96 (by omega) ex, ny2 (br_f nh (br_f y (br_t (by show nI j ≤ nI 47; rw [nI_leI hj (by decide)]; omega) ⟨pk_in (48 * s + j) 144 (by omega) ey, ?_, I⟩)))⟩
      obtain ⟨b, hb, g1, g2⟩ := f2 j q
      show (gy_memory v (48 * nI s + nI j).toNatClampNeg &&& 255) = gx_memories u (nI s * 48 + nI j).toNatClampNeg
      rw [pk_cl (48 * s + j) ey, pk_cl (s * 48 + j) ex, g1, g2, sb_255 b hb]
  · refine br_f z0 (br_f z1 (br_t rfl ?_))
    rcases z2 with z2 | ⟨z2, z3⟩
    · exact br_t z2 ⟨rfl, I⟩
    · exact br_f z2 (br_t z3 ⟨rfl, I⟩)
theorem i_vc_global {k : Nat} {u : SX} {v : SY} (I : i_Rel k u v) (hk : k + 9 ≤ 4608) (v1 : Int32) (v2 : Int32) : wpX_global (fun r => wpY_global (fun r' => r' = r ∧ i_Rel (k + 9) u v) v v1 v2) u v1 v2 := by
  unfold wpX_global
  rcases sl_case v1 with ⟨s, hs, rfl⟩ | ⟨z0, z1, z2⟩
  · obtain ⟨b, c, n, P, e1, e2, e3⟩ := rl_slot I s hs
    have eX : gx_loaded u (nI s).toNatClampNeg = bb_i b := by rw [pk_cl s]; exact e1
    have eY : gy_there v (nI s).toNatClampNeg = bb_i b := by rw [pk_cl s]; exact e2
    have ny : ∀ {r : Int64}, _ → wpY_global (fun r' => r' = r ∧ i_Rel (k + 9) u v) v (nI s) v2 := fun h => br_f (nI_pos (by omega)) (br_f (nI_nlt (b := s) (a := 1) (by omega) (by decide)) ⟨pk_in s 3 (by omega), h⟩)
    refine xs_1 hs (br_f (by decide) ⟨pk_in s 2 hs, ?_⟩)
    cases b with
    | false => exact br_t eX (ny (br_t eY ⟨rfl, I⟩))
    | true =>
      obtain ⟨⟨a1, a2, a3, a4⟩, ⟨b1, b2, b3⟩, ⟨d1, d2, d3, d4, d5, d6, d7, d8, d9, d10, d11, d12⟩, ⟨f1, f2⟩⟩ := e3 rfl
      obtain ⟨mp, _⟩ := mp_of a2
      have hG := mp.2.2.2.2.2.2.1
      have eG : gy_globals v (nI s).toNatClampNeg = nI (c (m_pG c n)) := by rw [pk_cl s]; exact d9
      have nt : ¬ gy_there v (nI s).toNatClampNeg = 0 := by rw [eY]; decide
      have nX : ¬ gx_loaded u (nI s).toNatClampNeg = 0 := by rw [eX]; decide
      refine br_f nX (br_c (fun y => ny (br_f nt (br_t y ⟨rfl, I⟩))) (fun y => ?_))
      refine xx_fact (m := s) (w := 3) (z := nI (c (m_pG c n))) (by exact b2.2.2.2.1) (by omega) (by omega) ?_
      obtain ⟨j, hj, rfl⟩ := nI_of y
      have ex : nI s * 3 + nI j = nI (s * 3 + j) := by rw [show (3 : Int32) = nI 3 from rfl, pk_mul, nI_add]
      have ey : 3 * nI s + nI j = nI (3 * s + j) := by rw [show (3 : Int32) = nI 3 from rfl, pk_mul, nI_add]
      refine pk_lt j (c (m_pG c n)) (fun q => ⟨pk_in (s * 3 + j) 6 (by omega) ex, ny (br_f nt (br_f y ⟨pk_in s 3 (by omega), pk_lt j (c (m_pG c n)) (fun _ => ⟨pk_in (3 * s + j) 9 (by omega) ey, ?_, I⟩) (fun x => absurd q (by omega)) rfl eG⟩))⟩) (fun q => ny (br_f nt (br_f y ⟨pk_in s 3 (by omega), pk_lt j (c (m_pG c n)) (fun x => absurd x (by omega)) (fun _ => ⟨rfl, I⟩) rfl eG⟩)))
      show gy_globalValue v (3 * nI s + nI j).toNatClampNeg = gx_globals u (nI s * 3 + nI j).toNatClampNeg
      rw [pk_cl (3 * s + j) ey, pk_cl (s * 3 + j) ex]
      exact (f1 j q).1.symm
  · refine br_f z0 (br_f z1 (br_t rfl ?_))
    rcases z2 with z2 | ⟨z2, z3⟩
    · exact br_t z2 ⟨rfl, I⟩
    · exact br_f z2 (br_t z3 ⟨rfl, I⟩)
theorem sm_ty {c : Nat → Nat} {n : Nat} {P : Nat → Nat} (h : sm_ok c n P) : ∀ f, f < m_I c n + m_F c n → c (m_fa c n f) < c 0 := by
  obtain ⟨a1, a2, a3, a4⟩ := h
  have hno := (fs_all a1 a2).1 a3
  intro f hf
  refine Classical.byContradiction (fun q => ?_)
  by_cases z : f < m_I c n
  · refine hno (m_im c n f) (Or.inl (Or.inl (Or.inl (Or.inl ⟨f, z, rfl, ?_⟩))))
    rw [m_fa, if_pos z] at q; omega
  · refine hno (m_fn c n (f - m_I c n)) (Or.inl (Or.inl (Or.inl (Or.inr ⟨f - m_I c n, by omega, rfl, ?_⟩))))
    rw [m_fa, if_neg z] at q; omega
theorem sk_fr {s : Nat} {c : Nat → Nat} {n : Nat} {BY BY' : Nat → Int32} {TY TS IM FU SI WH TA LA GL GK GF EN EA H M TY' TS' IM' FU' SI' WH' TA' LA' GL' GK' GF' EN' EA' H' M' : Nat → Int32} {GV GV' : Nat → Int64} (mp : mp_ok c n) (h : sk_ok s c n BY TY TS IM FU SI WH LA GL EN EA H) (g : yg_s s TY TS IM FU SI WH TA LA GL GK GF GV EN EA H M TY' TS' IM' FU' SI' WH' TA' LA' GL' GK' GF' GV' EN' EA' H' M') (hb : ∀ i, i < n → BY' (140 * s + i) = BY (140 * s + i)) : sk_ok s c n BY' TY' TS' IM' FU' SI' WH' LA' GL' EN' EA' H' := by
  have h0 := mp.1
  have hI := mp.2.2.1
  have hFn := mp.2.2.2.1
  obtain ⟨d1, d2, d3, d4, d5, d6, d7, d8, d9, d10, d11, d12⟩ := h
  obtain ⟨g0, g1, g2, g3, g4, g5, g6, g7, g8, g9, g10, g11, g12, g13, g14, g15⟩ := g
  exact ⟨fun i hi => (hb i hi).trans (d1 i hi), g0.trans d2, fun t ht => (g1 _ (by omega) (by omega)).trans (d3 t ht), g2.trans d4, g3.trans d5, fun f hf => (g4 _ (by omega) (by omega)).trans (d6 f hf), fun k hk => (g5 _ (by omega) (by omega)).trans (d7 k hk), fun f hf hf2 => (g7 _ (by omega) (by omega)).trans (d8 f hf hf2), g8.trans d9, g12.trans d10, g13.trans d11, g14.trans d12⟩
theorem sl_fr {s : Nat} {c : Nat → Nat} {n : Nat} {P : Nat → Nat} {CO FA PA CO' FA' PA' : Nat → Int32} {XG XG' : Nat → Int64} {XM XM' BY BY' : Nat → Int32} {TY TS IM FU SI WH TA LA GL GK GF EN EA H M TY' TS' IM' FU' SI' WH' TA' LA' GL' GK' GF' EN' EA' H' M' : Nat → Int32} {GV GV' : Nat → Int64} (h : sl_ok s c n P CO FA PA XG XM BY TY TS IM FU SI WH LA GL GV EN EA H M)
    (g : yg_s s TY TS IM FU SI WH TA LA GL GK GF GV EN EA H M TY' TS' IM' FU' SI' WH' TA' LA' GL' GK' GF' GV' EN' EA' H' M') (hb : ∀ i, i < n → BY' (140 * s + i) = BY (140 * s + i)) (x1 : ∀ i, i < 140 → CO' (s * 140 + i) = CO (s * 140 + i)) (x2 : ∀ i, i < 22 → FA' (s * 22 + i) = FA (s * 22 + i)) (x3 : ∀ i, i < 140 → PA' (s * 140 + i) = PA (s * 140 + i)) (x4 : ∀ i, i < 3 → XG' (s * 3 + i) = XG (s * 3 + i)) (x5 : ∀ i, i < 48 → XM' (s * 48 + i) = XM (s * 48 + i)) :
    sl_ok s c n P CO' FA' PA' XG' XM' BY' TY' TS' IM' FU' SI' WH' LA' GL' GV' EN' EA' H' M' := by
  obtain ⟨a, ⟨b1, b2, b3⟩, d, ⟨f1, f2⟩⟩ := h
  obtain ⟨mp, _⟩ := mp_of a.2.1
  have hG := mp.2.2.2.2.2.2.1
  refine ⟨a, ⟨⟨fun i hi => (x1 i hi).trans (b1.1 i hi), b1.2⟩, xf_mv mp b2 x2, fun i hi => (x3 i hi).trans (b3 i hi)⟩, sk_fr mp d g hb, fun g' hg => ?_, fun j hj => ?_⟩
  · obtain ⟨q1, q2⟩ := f1 g' hg
    have e : GV' (3 * s + g') = GV (3 * s + g') := g.2.2.2.2.2.2.2.2.2.2.2.1 _ (by omega) (by omega)
    rw [x4 g' (by omega), e]
    exact ⟨q1, q2⟩
  · obtain ⟨b, q1, q2, q3⟩ := f2 j hj
    have e : M' (48 * s + j) = M (48 * s + j) := g.2.2.2.2.2.2.2.2.2.2.2.2.2.2.2 _ (by omega) (by omega)
    exact ⟨b, q1, (x5 j hj).trans q2, e.trans q3⟩
