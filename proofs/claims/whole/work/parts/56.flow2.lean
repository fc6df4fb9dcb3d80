section
variable {B : Nat → Bool} {C : Nat → Nat → Nat} {N : Nat → Nat} {PP : Nat → Nat → Nat} {pend s f nv g p d : Nat} {X E E0 : List ev} {L : Nat → Int64} {F : List vt_Fr} {v : Int64}
theorem a_ret (AO : a_ok B C N PP pend s f nv g p E L F) (hv : pend = 1 → sx64 v) : a_ok B C N PP 0 s f nv g p (pu pend v E) L F := by
  obtain ⟨a1, a2, a3, a4, a5, a6, a7, a8, a9, a10, a11, a12, ⟨k, a13⟩, a14, a15⟩ := AO
  have ok := (wk_n a13).2.2.2.2.2.1
  obtain ⟨e1, e2⟩ := pu_gr (v := v) rfl ok
  have hh := fo_h a11
  rw [ek_len] at hh
  obtain ⟨l1, l2⟩ := pu_lo (k := pend) (v := v) hh
  rw [e1] at a13
  refine ⟨a1, a2, a3, a4, a5, a6, pu_tv a7 hv, ?_, a9, a10, fo_ext a11 l1 l2, a12, ⟨k, a13⟩, a14, a15⟩
  rw [pu_len]
  by_cases z : pend = 0
  · rw [if_pos z]; exact a8
  · rw [if_neg z]; have := e2 z; omega
theorem a_br (AO : a_ok B C N PP 0 s f nv g p (X ++ E0) L F) (hN : N s ≤ 140) (hh : f_h F ≤ E0.length) (hd : d + 1 < F.length) (hv : f_g (F.drop d) = 1 → sx64 v) :
    ∃ e, e < 140 ∧ p ≤ e ∧ f_h (F.drop d) ≤ E0.length ∧ C s (f_o (F.drop d)) = (if f_c (F.drop d) = 5 then 4 else f_c (F.drop d)) ∧ C s (f_o (F.drop d) + 1) = f_g (F.drop d) ∧ f_g (F.drop d) ≤ 2 ∧ f_o (F.drop d) + 2 ≤ N s ∧ (∃ j, sv (C s) (N s) false j (f_o (F.drop d) + 2) 0 e) ∧
      (∃ e1, PP s (f_o (F.drop d)) = e1 ∧ e1 < 140 ∧ (C s e1 = 5 → PP s e1 = e) ∧ (C s e1 ≠ 5 → e1 = e)) ∧
      a_ok B C N PP 0 s f nv g (e + 1) (pu (f_g (F.drop d)) v (le_ (f_h (F.drop d)) E0)) L (F.drop (d + 1)) := by
  obtain ⟨a1, a2, a3, a4, a5, a6, a7, a8, a9, a10, a11, a12, ⟨k, a13⟩, a14, a15, a16⟩ := AO
  have a13' : wk (C s) (N s) (PP s) f k p (ek (X ++ E0), F, false) := a13
  obtain ⟨e, s1, s2⟩ := a16.1 d hd
  have hn := fo_hn F _ a11
  have hle := hn_drop F _ d hn
  obtain ⟨f1, f2, f3, f4, _, f5⟩ := fo_at a11 (show d < F.length by omega)
  obtain ⟨c1, c2, c3, c4, c5, ⟨e1, c6, c7, c8⟩, ⟨j, e', c9⟩, _⟩ := f5 hd
  obtain ⟨q1, q2, q3, q4⟩ := sv_SC _ _ _ _ c9
  have := SC_uni s1 q1
  subst this
  have hD : F.drop (d + 1) ≠ [] := drop_ne hd
  obtain ⟨k', w⟩ := wk_exit k p _ F d e a13' hn s2 hD
  have hk : lo (f_h (F.drop d)) (ek (X ++ E0)) = ek (le_ (f_h (F.drop d)) E0) := by rw [ek_le, ek_app, lo_app _ (by rw [ek_len]; omega)]
  rw [hk] at w f1
  obtain ⟨n1, n2, n3, n4, n5, n6, n7⟩ := wk_n w
  obtain ⟨g1, g2⟩ := pu_gr (v := v) rfl n6
  rw [g1] at w
  have hll : (le_ (f_h (F.drop d)) E0).length = f_h (F.drop d) := le_len (by omega)
  have hf1 := fo_h f1
  rw [ek_len] at hf1
  obtain ⟨l1, l2⟩ := pu_lo (k := f_g (F.drop d)) (v := v) hf1
  have ht0 : tv E0 := tv_app X E0 a7
  rw [List.length_append] at a8
  refine ⟨e, by omega, SC_ge s2, by omega, c3, c4.symm, f3, c5, ⟨j, c9⟩, ⟨e1, c7, ?_, fun h5 => ?_, fun h5 => ?_⟩, a1, a2, a3, a4, a5, a6, pu_tv (le_tv ht0) hv, ?_, hD, ?_, fo_ext f1 l1 l2, (fb_drop F _ hD).trans a12, ⟨k', w⟩, a14, by omega, dp_exit a16 hd s2⟩
  · obtain ⟨kk, c6⟩ := c6
    obtain ⟨z1, z2, z3⟩ := SE_SC kk _ _ c6
    rcases z3 with z3 | z3
    · obtain ⟨e2, z4, z5⟩ := c8 z3
      have z6 := z2 z3 e2 (by rw [nx_1 (by omega)]; exact z4)
      have := SC_uni s1 z6
      subst this
      have := SC_ge z4
      omega
    · have := SC_uni s1 (z1 z3)
      omega
  · obtain ⟨kk, c6⟩ := c6
    obtain ⟨z1, z2, z3⟩ := SE_SC kk _ _ c6
    obtain ⟨e2, z4, z5⟩ := c8 h5
    have z6 := z2 h5 e2 (by rw [nx_1 (by omega)]; exact z4)
    have := SC_uni s1 z6
    subst this
    exact z5
  · obtain ⟨kk, c6⟩ := c6
    obtain ⟨z1, z2, z3⟩ := SE_SC kk _ _ c6
    rcases z3 with z3 | z3
    · exact absurd z3 h5
    · exact (SC_uni s1 (z1 z3)).symm
  · rw [pu_len, hll]
    by_cases z : f_g (F.drop d) = 0
    · rw [if_pos z]; omega
    · rw [if_neg z]; have := g2 z; omega
  · rw [List.length_drop]; omega
theorem a_lp (AO : a_ok B C N PP 0 s f nv g p (X ++ E0) L F) (hN : N s ≤ 140) (hh : f_h F ≤ E0.length) (hd : d + 1 < F.length) (h3 : f_c (F.drop d) = 3) :
    f_h (F.drop d) ≤ E0.length ∧ C s (f_o (F.drop d)) = 3 ∧ f_o (F.drop d) + 2 < 140 ∧ a_ok B C N PP 0 s f nv g (f_o (F.drop d) + 2) (le_ (f_h (F.drop d)) E0) L (F.drop d) := by
  obtain ⟨a1, a2, a3, a4, a5, a6, a7, a8, a9, a10, a11, a12, ⟨k, a13⟩, a14, a15, a16⟩ := AO
  have hn := fo_hn F _ a11
  have hle := hn_drop F _ d hn
  obtain ⟨f1, f2, f3, f4, f6, f5⟩ := fo_at a11 (show d < F.length by omega)
  obtain ⟨c1, c2, c3, c4, c5, _, _, c10⟩ := f5 hd
  obtain ⟨k', w⟩ := c10 h3
  have hk : lo (f_h (F.drop d)) (ek (X ++ E0)) = ek (le_ (f_h (F.drop d)) E0) := by rw [ek_le, ek_app, lo_app _ (by rw [ek_len]; omega)]
  rw [hk] at w f6
  have n1 := (wk_n w).1
  have hll : (le_ (f_h (F.drop d)) E0).length = f_h (F.drop d) := le_len (by omega)
  have ht0 : tv E0 := tv_app X E0 a7
  rw [List.length_append] at a8
  rw [if_neg (by omega), h3] at c3
  have hD : F.drop d ≠ [] := drop_ne (by omega)
  refine ⟨by omega, c3, by omega, a1, a2, a3, a4, a5, a6, le_tv ht0, by omega, hD, by rw [List.length_drop]; omega, f6, (fb_drop F _ hD).trans a12, ⟨k', w⟩, a14, by omega, dp_loop a16 hd⟩
theorem a_cl {e : Nat} (AO : a_ok B C N PP 0 s f nv g p E L F) (hN : N s ≤ 140) (ht : F.tail ≠ []) (hpr : vt_pr (f_g F) (ek E, F, false) = (lo (f_h F) (ek E), F, false)) (q : SC (C s) p 0 e) :
    e + 1 < 140 ∧ p ≤ e ∧ C s e = 6 ∧ a_ok B C N PP 0 s f nv g (e + 1) E L F.tail := by
  obtain ⟨a1, a2, a3, a4, a5, a6, a7, a8, a9, a10, a11, a12, ⟨k, a13⟩, a14, a15, a16⟩ := AO
  have a13' : wk (C s) (N s) (PP s) f k p (ek E, F, false) := a13
  have hn := fo_hn F _ a11
  have hh := fo_h a11
  rw [ek_len] at hh
  have ht1 : F.drop 1 = F.tail := List.drop_one
  obtain ⟨k', w⟩ := wk_exit k p _ F 0 e a13' hn q (by rw [Nat.zero_add, ht1]; exact ht)
  rw [Nat.zero_add, ht1, List.drop_zero] at w
  obtain ⟨v, E', e1, e2, e3, e4, e5, e6⟩ := pr_e (by rw [hpr]) (fo_d a11) a7 hh
  have e7 : ek E' = lo (f_h F) (ek E) := congrArg Prod.fst (e4.symm.trans hpr)
  obtain ⟨n1, n2, n3, n4, n5, n6, n7⟩ := wk_n w
  obtain ⟨g1, g2⟩ := pu_gr (v := v) e7 n6
  rw [g1, ← e1] at w
  have hlen : 1 < F.length := by
    have z1 := List.length_pos_iff.mpr ht
    rw [List.length_tail] at z1
    omega
  have hdp := dp_exit (d := 0) a16 (by omega) q
  rw [Nat.zero_add, ht1] at hdp
  have hf := fo_tail a11
  rw [← e7] at hf
  have hf1 := fo_h hf
  rw [ek_len] at hf1
  obtain ⟨l1, l2⟩ := pu_lo (k := f_g F) (v := v) hf1
  rw [← e1] at l1 l2
  have hb := fb_drop F 1 (by rw [ht1]; exact ht)
  rw [ht1] at hb
  exact ⟨by omega, SC_ge q, SC_c6 q, a1, a2, a3, a4, a5, a6, a7, a8, ht, by rw [List.length_tail]; omega, fo_ext hf l1 l2, hb.trans a12, ⟨k', w⟩, a14, by omega, hdp⟩
theorem a_end (AO : a_ok B C N PP 0 s f nv g p E L F) (hN : N s ≤ 140) (h6 : C s p = 6) :
    (F.tail ≠ [] → p + 1 < 140 ∧ a_ok B C N PP 0 s f nv g (p + 1) E L F.tail) ∧ (F.tail = [] → (vt_pr g (ek E, F, false)).2.2 = false) := by
  have AO' := AO
  obtain ⟨a1, a2, a3, a4, a5, a6, a7, a8, a9, a10, a11, a12, ⟨k, a13⟩, a14, a15, a16⟩ := AO
  have a13' : wk (C s) (N s) (PP s) f k p (ek E, F, false) := a13
  obtain ⟨z1, z2, z3, z4⟩ := vl_6 h6 (fo_h a11) (wk_s a13').1
  refine ⟨fun ht => ?_, fun ht => ?_⟩
  · obtain ⟨y1, y2, y3, y4⟩ := a_cl AO' hN ht z4 (SC_e h6)
    exact ⟨y1, y4⟩
  · rw [← a12, fb_one a9 ht, z4]
theorem a_else (AO : a_ok B C N PP 0 s f nv g p E L F) (hN : N s ≤ 140) (h5 : C s p = 5) :
    ∃ e j, PP s p = e ∧ sv (C s) (N s) false j (p + 1) 0 e ∧ e + 1 < 140 ∧ p < e + 1 ∧ C s e = 6 ∧ F.tail ≠ [] ∧ a_ok B C N PP 0 s f nv g (e + 1) E L F.tail := by
  have AO' := AO
  obtain ⟨a1, a2, a3, a4, a5, a6, a7, a8, a9, a10, a11, a12, ⟨k, a13⟩, a14, a15, a16⟩ := AO
  have a13' : wk (C s) (N s) (PP s) f k p (ek E, F, false) := a13
  cases k with
  | zero => exact a13'.elim
  | succ k =>
    obtain ⟨w0, w1, w2, w3, w4, w5, w6, w7, w8, w9, w10⟩ := a13'
    obtain ⟨ht, hc, hP⟩ := w8 h5
    dsimp only at ht hc hP
    obtain ⟨z1, z2⟩ := vl_5 h5 (fo_h a11) w9
    rw [z1, nx_1 (by omega)] at w10
    rcases w10 with y | w10
    · exact absurd y (by simp)
    have hlen : 1 < F.length := by
      have z1 := List.length_pos_iff.mpr ht
      rw [List.length_tail] at z1
      omega
    obtain ⟨f1, f2, f3, f4, f6, f5⟩ := fo_at (d := 0) a11 (by omega)
    rw [List.drop_zero] at f5
    obtain ⟨c1, c2, c3, c4, c5, ⟨e1, c6, c7, c8⟩, _⟩ := f5 (by omega)
    have : e1 = p := c7.symm.trans hP
    subst this
    obtain ⟨e, c9, c10⟩ := c8 h5
    obtain ⟨j, e', q1, q2⟩ := sv_of false k _ _ 0 w10 (by simp)
    obtain ⟨q3, q4, q5, q6⟩ := sv_SC _ _ _ _ q1
    have := SC_uni c9 q3
    subst this
    have hs : SC (C s) e1 0 e := (SC_n (by omega) (by omega)).mpr (by rw [nx_1 (by omega)]; exact c9)
    obtain ⟨y1, y2, y3, y4⟩ := a_cl AO' hN ht z2 hs
    exact ⟨e, j, c10, q1, y1, by omega, y3, ht, y4⟩
theorem fo_45 {c : Nat → Nat} {n : Nat} {P : Nat → Nat} {f' gg h o : Nat} {dd : Bool} {K : List Nat} (q : fo c n P f' K ((4, gg, h, dd, o) :: F)) (hF : F ≠ []) : fo c n P f' K ((5, gg, h, dd, o) :: F) := by
  obtain ⟨a1, a2, a3, a4, a5, a6⟩ := q
  obtain ⟨b1, b2, b3, b4, b5, b6, b7, b8⟩ := a5 hF
  refine ⟨a1, a2, a3, fun z => absurd z hF, fun _ => ⟨by omega, by omega, ?_, b4, b5, b6, b7, fun z => absurd z (by omega)⟩, a6⟩
  rw [if_neg (by omega)] at b3
  rw [if_pos rfl]; exact b3
theorem a_open (AO : a_ok B C N PP 0 s f nv g p E L F) (hN : N s ≤ 140) (ho : 2 ≤ C s p ∧ C s p ≤ 4) :
    ∃ E', (C s p ≠ 4 → E' = E) ∧ (C s p = 4 → ∃ v, E = (1, v) :: E') ∧ F.length < 8 ∧ nx (C s) p = p + 2 ∧ C s (p + 1) ≤ 2 ∧ p + 2 < 140 ∧ a_ok B C N PP 0 s f nv g (p + 2) E' L ((C s p, C s (p + 1), E'.length, false, p) :: F) := by
  obtain ⟨a1, a2, a3, a4, a5, a6, a7, a8, a9, a10, a11, a12, ⟨k, a13⟩, a14, a15, a16⟩ := AO
  have a13' : wk (C s) (N s) (PP s) f k p (ek E, F, false) := a13
  obtain ⟨K', k1, k2, k3, k4, k5, k6, k7, k8, k9, k', k10⟩ := fo_open a13' a11 ho
  have hh := fo_h a11
  rw [ek_len] at hh
  obtain ⟨E', e1, e2, e3, e4, e5⟩ : ∃ E', (C s p ≠ 4 → E' = E) ∧ (C s p = 4 → ∃ v, E = (1, v) :: E') ∧ ek E' = K' ∧ tv E' ∧ E'.length ≤ E.length := by
    by_cases h4 : C s p = 4
    · have q := k2 h4
      obtain ⟨x, v, E', q1, q2, q3, q4, q5, q6, q7, q8⟩ := pe (by rw [q]) (fo_d a11) a7 hh
      have := q3 (by omega)
      subst this
      refine ⟨E', fun z => absurd h4 z, fun _ => ⟨v, q1⟩, congrArg Prod.fst (q4.symm.trans q), q7, ?_⟩
      rw [q1, List.length_cons]; omega
    · exact ⟨E, fun _ => rfl, fun z => absurd z h4, (k1 h4).symm, a7, Nat.le_refl _⟩
  subst e3
  rw [ek_len] at k9 k10
  obtain ⟨n1, n2, n3, n4, n5, n6, n7⟩ := wk_n k10
  obtain ⟨j, e, q1, q2⟩ := sv_of false k' _ _ 0 k10 (by simp)
  have q3 := (sv_SC _ _ _ _ q1).1
  refine ⟨E', e1, e2, by omega, k6, k7, by omega, a1, a2, a3, a4, a5, a6, e4, by omega, by simp, by rw [List.length_cons]; omega, k9, ?_, ⟨k', k10⟩, a14, by omega, dp_open a16 ho k6 q3⟩
  rw [f_b, if_neg a9]; exact a12
theorem a_alt (AO : a_ok B C N PP 0 s f nv g p E L F) (hN : N s ≤ 140) (h4 : C s p = 4) :
    ∃ v E' e1 j, E = (1, v) :: E' ∧ PP s p = e1 ∧ sv (C s) (N s) true j (p + 2) 0 e1 ∧ nx (C s) p = p + 2 ∧ C s (p + 1) ≤ 2 ∧ F.length < 8 ∧ p + 2 ≤ e1 ∧ e1 + 1 < 140 ∧ (C s e1 = 5 ∨ C s e1 = 6) ∧ (C s e1 = 5 → a_ok B C N PP 0 s f nv g (e1 + 1) E' L ((5, C s (p + 1), E'.length, false, p) :: F)) ∧
      (C s e1 = 6 → a_ok B C N PP 0 s f nv g (e1 + 1) E' L F) := by
  obtain ⟨E', e1, e2, e3, e4, e5, e6, AO2⟩ := a_open AO hN (by omega)
  obtain ⟨v, e7⟩ := e2 h4
  obtain ⟨a1, a2, a3, a4, a5, a6, a7, a8, a9, a10, a11, a12, ⟨k, a13⟩, a14, a15, a16⟩ := AO2
  have a13' : wk (C s) (N s) (PP s) f k (p + 2) (ek E', (C s p, C s (p + 1), E'.length, false, p) :: F, false) := a13
  have hF : F ≠ [] := AO.2.2.2.2.2.2.2.2.1
  obtain ⟨f1, f2, f3, f4, f6, f5⟩ := fo_at (d := 0) a11 (by simp)
  have hlen := List.length_pos_iff.mpr hF
  obtain ⟨c1, c2, c3, c4, c5, ⟨q, c6, c7, c8⟩, _⟩ := f5 (by simp; omega)
  have c6' : SE (C s) (p + 2) 0 q := c6
  have hn := fo_hn _ _ a11
  obtain ⟨j, q', s1, s2⟩ := sv_of true k _ _ 0 a13' (by simp)
  obtain ⟨s3, s4, s5, s6⟩ := sv_SE _ _ _ _ s1
  have := SE_uni c6' s3
  subst this
  obtain ⟨w1, w2⟩ := wk_alt k _ _ _ 0 q a13' hn c6' h4 hF
  have hlo : lo E'.length (ek E') = ek E' := by
    have := lo_self (ek E')
    rw [ek_len] at this
    exact this
  rw [h4] at a16 a11 a13'
  have key5 : C s q = 5 → q + 1 < N s ∧ a_ok B C N PP 0 s f nv g (q + 1) E' L ((5, C s (p + 1), E'.length, false, p) :: F) := by
    intro h5
    obtain ⟨k', w⟩ := w1 h5
    have w' : wk (C s) (N s) (PP s) f k' (q + 1) (lo E'.length (ek E'), (5, C s (p + 1), E'.length, false, p) :: F, false) := w
    rw [hlo] at w'
    have n1 := (wk_n w').1
    refine ⟨n1, a1, a2, a3, a4, a5, a6, a7, a8, by simp, a10, fo_45 a11 hF, ?_, ⟨k', w'⟩, a14, by omega, dp_alt a16 c6' h5⟩
    rw [f_b, if_neg hF]; exact AO.2.2.2.2.2.2.2.2.2.2.2.1
  have key6 : C s q = 6 → q + 1 < N s ∧ a_ok B C N PP 0 s f nv g (q + 1) E' L F := by
    intro h6
    have hg : C s (p + 1) = 0 := w2 h6
    have hsc : SC (C s) (p + 2) 0 q := by
      obtain ⟨kk, c6⟩ := c6'
      exact (SE_SC kk _ _ c6).1 h6
    obtain ⟨k', w⟩ := wk_exit k _ _ _ 0 q a13' (by rw [← h4]; exact hn) hsc hF
    have w' : wk (C s) (N s) (PP s) f k' (q + 1) (vt_gr (C s (p + 1)) (lo E'.length (ek E'), F, false)) := w
    rw [hlo, hg] at w'
    have w'' : wk (C s) (N s) (PP s) f k' (q + 1) (ek E', F, false) := w'
    have n1 := (wk_n w'').1
    have hdp := dp_exit (d := 0) a16 (by simp; omega) hsc
    have f1' : fo (C s) (N s) (PP s) f (lo E'.length (ek E')) F := f1
    rw [hlo] at f1'
    exact ⟨n1, a1, a2, a3, a4, a5, a6, a7, a8, hF, by omega, f1', AO.2.2.2.2.2.2.2.2.2.2.2.1, ⟨k', w''⟩, a14, by omega, hdp⟩
  have hq : q + 1 < 140 := by
    rcases s4 with z | z
    · have := (key6 z).1; omega
    · have := (key5 z).1; omega
  exact ⟨v, E', q, j, e7, c7, s1, e4, e5, e3, s6, hq, s4.symm, fun z => (key5 z).2, fun z => (key6 z).2⟩
end
