def lo (h : Nat) (K : List Nat) : List Nat := K.drop (K.length - h)
theorem lo_len {h : Nat} {K : List Nat} (e : h ≤ K.length) : (lo h K).length = h := by unfold lo; rw [List.length_drop]; omega
theorem lo_cons {h x : Nat} {K : List Nat} (e : h ≤ K.length) : lo h (x :: K) = lo h K := by
  unfold lo
  rw [List.length_cons, show K.length + 1 - h = (K.length - h) + 1 by omega]
  rfl
theorem lo_self (K : List Nat) : lo K.length K = K := by unfold lo; rw [Nat.sub_self]; rfl
theorem lo_tail {h : Nat} {K : List Nat} (e : h < K.length) : lo h K.tail = lo h K := by
  cases K with
  | nil => exact absurd e (Nat.not_lt_zero _)
  | cons x K => rw [List.length_cons] at e; exact (lo_cons (K := K) (x := x) (by omega)).symm
theorem lo_lo {h h' : Nat} {K : List Nat} (e : h ≤ h') (e' : h' ≤ K.length) : lo h (lo h' K) = lo h K := by
  unfold lo
  rw [List.length_drop, List.drop_drop]
  congr 1
  omega
theorem lo_le {h h' : Nat} {K K' : List Nat} (e : h ≤ h') (e1 : h' ≤ K.length) (e2 : h' ≤ K'.length) (q : lo h' K' = lo h' K) : lo h K' = lo h K := by
  rw [← lo_lo e e2, q, lo_lo e e1]
theorem lo_eq {h : Nat} {K K' : List Nat} (e : K'.length = h) (q : lo h K' = lo h K) : K' = lo h K := by
  rw [← q, ← e, lo_self]
def kp (S S' : vt_St) : Prop := S'.2.1 = S.2.1 ∧ (f_h S.2.1 ≤ S.1.length → f_h S.2.1 ≤ S'.1.length ∧ lo (f_h S.2.1) S'.1 = lo (f_h S.2.1) S.1)
theorem kp_r (S : vt_St) : kp S S := ⟨rfl, fun h => ⟨h, rfl⟩⟩
theorem kp_t {S S' S'' : vt_St} (a : kp S S') (b : kp S' S'') : kp S S'' := by
  obtain ⟨a1, a2⟩ := a
  obtain ⟨b1, b2⟩ := b
  rw [a1] at b2
  refine ⟨b1.trans a1, fun h => ?_⟩
  obtain ⟨x1, x2⟩ := a2 h
  obtain ⟨y1, y2⟩ := b2 x1
  exact ⟨y1, y2.trans x2⟩
theorem kp_pl (k : Nat) (S : vt_St) : kp S (vt_pl k S) := by
  refine ⟨fk_pl k S, fun h => ?_⟩
  unfold vt_pl
  split
  · exact ⟨h, rfl⟩
  · rename_i z
    have : f_h S.2.1 < S.1.length := by omega
    refine ⟨?_, lo_tail this⟩
    show f_h S.2.1 ≤ S.1.tail.length
    rw [List.length_tail]
    omega
theorem kp_gv (k : Nat) (S : vt_St) : kp S (vt_gv k S) := by
  refine ⟨fk_gv k S, fun h => ?_⟩
  unfold vt_gv
  split
  · exact ⟨h, rfl⟩
  · refine ⟨?_, lo_cons h⟩
    show f_h S.2.1 ≤ (k :: S.1).length
    rw [List.length_cons]
    omega
theorem kp_pr (k : Nat) (S : vt_St) : kp S (vt_pr k S) := by unfold vt_pr; split; exact kp_r S; exact kp_pl k S
theorem kp_gr (k : Nat) (S : vt_St) : kp S (vt_gr k S) := by unfold vt_gr; split; exact kp_r S; exact kp_gv k S
theorem kp_bad (S : vt_St) (b : Bool) : kp S (vt_bad S b) := ⟨rfl, fun h => ⟨h, rfl⟩⟩
theorem kp_ws (d : Nat) (S : vt_St) : kp S (vt_ws d S) := kp_bad S _
theorem kp_ps (c : Nat → Nat) (t : Nat) : ∀ k S, kp S (vt_ps c t k S) := by
  intro k
  induction k with
  | zero => intro S; exact kp_r S
  | succ k ih => intro S; rw [vt_ps]; exact kp_t (kp_pl _ S) (ih _)
theorem kp_tb (c : Nat → Nat) (w : Nat) : ∀ r p S, kp S (vt_tb c w r p S) := by
  intro r
  induction r with
  | zero => intro p S; exact kp_r S
  | succ r ih => intro p S; rw [vt_tb]; exact kp_t (kp_t (kp_ws _ S) (kp_bad _ _)) (ih _ _)
theorem kp_call (c : Nat → Nat) (n op x : Nat) (S : vt_St) : kp S (vt_call c n op x S) := by
  unfold vt_call
  split
  · exact kp_bad S _
  · refine kp_t ?_ (kp_gr _ _)
    refine kp_t ?_ (kp_ps _ _ _ _)
    split
    · exact kp_pl 1 S
    · exact kp_r S
theorem kp_var (c : Nat → Nat) (n f op x : Nat) (S : vt_St) : kp S (vt_var c n f op x S) := by
  unfold vt_var
  repeat' split
  all_goals first
    | exact kp_t (kp_bad S _) (kp_gv _ _)
    | exact kp_t (kp_bad S _) (kp_pl _ _)
    | exact kp_t (kp_t (kp_bad S _) (kp_pl _ _)) (kp_gv _ _)
    | exact kp_gv _ _
theorem kp_mem (c : Nat → Nat) (n op : Nat) (S : vt_St) : kp S (vt_mem c n op S) := by
  unfold vt_mem
  split
  · exact kp_gv _ _
  · split
    · exact kp_t (kp_t (kp_bad S _) (kp_pl _ _)) (kp_gv _ _)
    · exact kp_t (kp_t (kp_bad S _) (kp_pl _ _)) (kp_pl _ _)
theorem kp_num (op : Nat) (S : vt_St) : kp S (vt_num op S) := by
  unfold vt_num
  refine kp_t ?_ (kp_gv _ _)
  split
  · exact kp_pl _ _
  · exact kp_t (kp_pl _ _) (kp_pl _ _)
theorem kp_sel (S : vt_St) : kp S (vt_sel S) := kp_t (kp_t (kp_t (kp_pl _ _) (kp_pl _ _)) (kp_pl _ _)) (kp_gv _ _)
def hn : Nat → List vt_Fr → Prop
  | _, [] => True
  | t, (_, _, h, _, _) :: F => h ≤ t ∧ hn h F
theorem hn_top {t : Nat} {F : List vt_Fr} (h : hn t F) : f_h F ≤ t := by
  cases F with
  | nil => exact Nat.zero_le t
  | cons x F => obtain ⟨a, b, d, e, g⟩ := x; exact h.1
theorem hn_tail {t : Nat} {F : List vt_Fr} (h : hn t F) : hn (f_h F) F.tail := by
  cases F with
  | nil => trivial
  | cons x F => obtain ⟨a, b, d, e, g⟩ := x; exact h.2
theorem hn_mono {t t' : Nat} {F : List vt_Fr} (h : hn t F) (e : f_h F ≤ t') : hn t' F := by
  cases F with
  | nil => trivial
  | cons x F => obtain ⟨a, b, d, e, g⟩ := x; exact ⟨e, h.2⟩
theorem hn_drop : ∀ (F : List vt_Fr) t d, hn t F → f_h (F.drop d) ≤ f_h F := by
  intro F
  induction F with
  | nil => intro t d _; rw [List.drop_nil]; exact Nat.le_refl _
  | cons x F ih =>
    intro t d h
    obtain ⟨a, b, hh, e, g⟩ := x
    cases d with
    | zero => exact Nat.le_refl _
    | succ d =>
      have := ih hh d h.2
      have e2 := hn_top h.2
      show f_h (F.drop d) ≤ hh
      omega
theorem fr_eta {F : List vt_Fr} (h : F ≠ []) : F = (f_c F, f_g F, f_h F, f_d F, f_o F) :: F.tail := by
  cases F with
  | nil => exact absurd rfl h
  | cons x F => rfl
theorem st_eta (S : vt_St) (h : S.2.2 = false) : S = (S.1, S.2.1, false) := by
  obtain ⟨K, F, b⟩ := S
  have : b = false := h
  rw [this]
theorem bf_pl {k : Nat} {S : vt_St} (h : (vt_pl k S).2.2 = false) : S.2.2 = false := by
  cases e : S.2.2 with
  | false => rfl
  | true => rw [fm_pl e] at h; exact ff_t h.symm
theorem bf_pr {k : Nat} {S : vt_St} (h : (vt_pr k S).2.2 = false) : S.2.2 = false := by
  cases e : S.2.2 with
  | false => rfl
  | true => rw [fm_pr e] at h; exact ff_t h.symm
theorem bf_gv {k : Nat} {S : vt_St} (h : (vt_gv k S).2.2 = false) : S.2.2 = false := by
  cases e : S.2.2 with
  | false => rfl
  | true => rw [fm_gv e] at h; exact ff_t h.symm
theorem bf_gr {k : Nat} {S : vt_St} (h : (vt_gr k S).2.2 = false) : S.2.2 = false := by
  cases e : S.2.2 with
  | false => rfl
  | true => rw [fm_gr e] at h; exact ff_t h.symm
theorem bf_bad {S : vt_St} {b : Bool} (h : (vt_bad S b).2.2 = false) : S.2.2 = false ∧ b = false := by
  have h' : (S.2.2 || b) = false := h
  rw [Bool.or_eq_false_iff] at h'
  exact h'
theorem vl_o {c : Nat → Nat} {n f p : Nat} {K : List Nat} {F : List vt_Fr} (ho : 2 ≤ c p ∧ c p ≤ 4) (hh : f_h F ≤ K.length) (ok : (v_st c n f p (K, F, false)).2.2 = false) :
    ∃ K', v_st c n f p (K, F, false) = (K', (c p, c (p + 1), K'.length, false, p) :: F, false) ∧ f_h F ≤ K'.length ∧ lo (f_h F) K' = lo (f_h F) K ∧ F.length ≠ 8 ∧ (c p ≠ 4 → K' = K) ∧ (c p = 4 → vt_pl 1 (K, F, false) = (K', F, false)) := by
  unfold v_st at ok ⊢
  rw [if_neg (by omega), if_neg (by omega)] at ok ⊢
  by_cases h2 : c p = 2 ∨ c p = 3
  · rw [if_pos h2] at ok ⊢
    unfold vt_open at ok ⊢
    by_cases h8 : F.length = 8
    · rw [if_pos h8] at ok; exact ff_t ok.symm
    · rw [if_neg h8] at ok ⊢
      exact ⟨K, rfl, hh, rfl, h8, fun _ => rfl, fun z => absurd z (by omega)⟩
  · rw [if_neg h2, if_pos (by omega)] at ok ⊢
    have h4 : c p = 4 := by omega
    obtain ⟨a1, a2⟩ := kp_pl 1 (K, F, false)
    obtain ⟨a3, a4⟩ := a2 hh
    unfold vt_open at ok ⊢
    rw [a1] at ok ⊢
    dsimp only at ok a1 a3 a4 ⊢
    by_cases h8 : F.length = 8
    · rw [if_pos h8] at ok; exact ff_t ok.symm
    · rw [if_neg h8] at ok ⊢
      have ok' : (vt_pl 1 (K, F, false)).2.2 = false := ok
      have e := st_eta _ ok'
      rw [a1] at e
      refine ⟨(vt_pl 1 (K, F, false)).1, ?_, a3, a4, h8, fun z => absurd h4 z, fun _ => e⟩
      rw [ok', h4]
theorem vl_c {op : Nat} {K : List Nat} {F : List vt_Fr} (hh : f_h F ≤ K.length) (ok : (vt_cl op (K, F, false)).2.2 = false) :
    vt_pr (f_g F) (K, F, false) = (lo (f_h F) K, F, false) ∧ (vt_cl op (K, F, false)).1 = lo (f_h F) K ∧ (op = 6 → f_c F = 4 → f_g F = 0) := by
  unfold vt_cl at ok ⊢
  dsimp only at ok ⊢
  obtain ⟨b1, b2⟩ := bf_bad ok
  have b3 := of_decide_eq_false b2
  obtain ⟨a1, a2⟩ := kp_pr (f_g F) (K, F, false)
  obtain ⟨a3, a4⟩ := a2 hh
  dsimp only at a1 a3 a4
  have e1 : (vt_pr (f_g F) (K, F, false)).1.length = f_h F := by omega
  have e2 := lo_eq e1 a4
  refine ⟨?_, e2, fun h6 h4 => by omega⟩
  have e := st_eta _ b1
  rw [a1, e2] at e
  exact e
theorem vl_5 {c : Nat → Nat} {n f p : Nat} {K : List Nat} {F : List vt_Fr} (h5 : c p = 5) (hh : f_h F ≤ K.length) (ok : (v_st c n f p (K, F, false)).2.2 = false) :
    v_st c n f p (K, F, false) = (lo (f_h F) K, (5, f_g F, f_h F, false, f_o F) :: F.tail, false) ∧ vt_pr (f_g F) (K, F, false) = (lo (f_h F) K, F, false) := by
  unfold v_st at ok ⊢
  rw [if_neg (by omega), if_neg (by omega), if_neg (by omega), if_neg (by omega), if_pos (by omega)] at ok ⊢
  unfold vt_close at ok ⊢
  rw [if_pos h5, h5] at ok ⊢
  dsimp only at ok ⊢
  obtain ⟨a1, a2, _⟩ := vl_c hh ok
  rw [a2, ok]
  exact ⟨rfl, a1⟩
theorem vl_6 {c : Nat → Nat} {n f p : Nat} {K : List Nat} {F : List vt_Fr} (h6 : c p = 6) (hh : f_h F ≤ K.length) (ok : (v_st c n f p (K, F, false)).2.2 = false) :
    (F.tail = [] → (v_st c n f p (K, F, false)).2.1 = []) ∧ (F.tail ≠ [] → v_st c n f p (K, F, false) = vt_gr (f_g F) (lo (f_h F) K, F.tail, false)) ∧ (f_c F = 4 → f_g F = 0) ∧ vt_pr (f_g F) (K, F, false) = (lo (f_h F) K, F, false) := by
  unfold v_st at ok ⊢
  rw [if_neg (by omega), if_neg (by omega), if_neg (by omega), if_neg (by omega), if_pos (by omega)] at ok ⊢
  unfold vt_close at ok ⊢
  rw [if_neg (by omega), h6] at ok ⊢
  dsimp only at ok ⊢
  by_cases hT : F.tail = []
  · rw [if_pos hT] at ok ⊢
    obtain ⟨a1, a2, a3⟩ := vl_c hh ok
    exact ⟨fun _ => rfl, fun z => absurd hT z, a3 rfl, a1⟩
  · rw [if_neg hT] at ok ⊢
    have ok' := bf_gr ok
    obtain ⟨a1, a2, a3⟩ := vl_c hh ok'
    have ok2 : (vt_cl 6 (K, F, false)).2.2 = false := ok'
    refine ⟨fun z => absurd z hT, fun _ => ?_, a3 rfl, a1⟩
    rw [a2, ok2]
theorem vl_d {S S' : vt_St} (k : kp S S') (hF : S.2.1 ≠ []) (hh : f_h S.2.1 ≤ S.1.length) (ok : (vt_die S').2.2 = false) :
    ∃ K', vt_die S' = (K', (f_c S.2.1, f_g S.2.1, f_h S.2.1, true, f_o S.2.1) :: S.2.1.tail, false) ∧ f_h S.2.1 ≤ K'.length ∧ lo (f_h S.2.1) K' = lo (f_h S.2.1) S.1 := by
  obtain ⟨k1, k2⟩ := k
  obtain ⟨k3, k4⟩ := k2 hh
  have ok' : S'.2.2 = false := ok
  refine ⟨lo (f_h S.2.1) S'.1, ?_, ?_, ?_⟩
  · unfold vt_die lo
    rw [k1, ok']
  · rw [lo_len k3]; exact Nat.le_refl _
  · rw [lo_lo (Nat.le_refl _) k3, k4]
theorem vl_k {S S' : vt_St} (k : kp S S') (hF : S.2.1 ≠ []) (hh : f_h S.2.1 ≤ S.1.length) (ok : S'.2.2 = false) :
    ∃ K' b, S' = (K', (f_c S.2.1, f_g S.2.1, f_h S.2.1, b, f_o S.2.1) :: S.2.1.tail, false) ∧ f_h S.2.1 ≤ K'.length ∧ lo (f_h S.2.1) K' = lo (f_h S.2.1) S.1 := by
  obtain ⟨k1, k2⟩ := k
  obtain ⟨k3, k4⟩ := k2 hh
  refine ⟨S'.1, f_d S.2.1, ?_, k3, k4⟩
  have e := st_eta _ ok
  rw [k1] at e
  rw [← fr_eta hF]
  exact e
theorem vl_n {c : Nat → Nat} {n f p : Nat} {K : List Nat} {F : List vt_Fr} (ho : ¬ (2 ≤ c p ∧ c p ≤ 4)) (h5 : c p ≠ 5) (h6 : c p ≠ 6) (hF : F ≠ []) (hh : f_h F ≤ K.length) (ok : (v_st c n f p (K, F, false)).2.2 = false) :
    ∃ K' b, v_st c n f p (K, F, false) = (K', (f_c F, f_g F, f_h F, b, f_o F) :: F.tail, false) ∧ f_h F ≤ K'.length ∧ lo (f_h F) K' = lo (f_h F) K := by
  have dd : ∀ S', kp (K, F, false) S' → (vt_die S').2.2 = false → ∃ K' b, vt_die S' = (K', (f_c F, f_g F, f_h F, b, f_o F) :: F.tail, false) ∧ f_h F ≤ K'.length ∧ lo (f_h F) K' = lo (f_h F) K := by
    intro S' k o
    obtain ⟨K', a⟩ := vl_d k hF hh o
    exact ⟨K', true, a⟩
  have kk : ∀ S', kp (K, F, false) S' → S'.2.2 = false → ∃ K' b, S' = (K', (f_c F, f_g F, f_h F, b, f_o F) :: F.tail, false) ∧ f_h F ≤ K'.length ∧ lo (f_h F) K' = lo (f_h F) K := fun S' k o => vl_k k hF hh o
  unfold v_st at ok ⊢
  by_cases h0 : c p = 0
  · rw [if_pos h0] at ok ⊢; exact dd _ (kp_r _) ok
  rw [if_neg h0] at ok ⊢
  by_cases h1 : c p = 1
  · rw [if_pos h1] at ok ⊢; exact kk _ (kp_r _) ok
  rw [if_neg h1, if_neg (by omega), if_neg (by omega), if_neg (by omega)] at ok ⊢
  by_cases h7 : c p = 7
  · rw [if_pos h7] at ok ⊢; exact dd _ (kp_t (kp_ws _ _) (kp_pr _ _)) ok
  rw [if_neg h7] at ok ⊢
  by_cases h8 : c p = 8
  · rw [if_pos h8] at ok ⊢; exact kk _ (kp_t (kp_t (kp_t (kp_pl _ _) (kp_ws _ _)) (kp_pr _ _)) (kp_gr _ _)) ok
  rw [if_neg h8] at ok ⊢
  by_cases h9 : c p = 9
  · rw [if_pos h9] at ok ⊢; exact dd _ (kp_t (kp_t (kp_t (kp_pl _ _) (kp_ws _ _)) (kp_tb _ _ _ _ _)) (kp_pr _ _)) ok
  rw [if_neg h9] at ok ⊢
  by_cases h10 : c p = 10
  · rw [if_pos h10] at ok ⊢; exact dd _ (kp_pr _ _) ok
  rw [if_neg h10] at ok ⊢
  by_cases h11 : c p = 11 ∨ c p = 12
  · rw [if_pos h11] at ok ⊢; exact kk _ (kp_call _ _ _ _ _) ok
  rw [if_neg h11] at ok ⊢
  by_cases h13 : c p = 13
  · rw [if_pos h13] at ok ⊢; exact kk _ (kp_pl _ _) ok
  rw [if_neg h13] at ok ⊢
  by_cases h14 : c p = 14
  · rw [if_pos h14] at ok ⊢; exact kk _ (kp_sel _) ok
  rw [if_neg h14] at ok ⊢
  by_cases h15 : c p < 20
  · rw [if_pos h15] at ok ⊢; exact kk _ (kp_var _ _ _ _ _ _) ok
  rw [if_neg h15] at ok ⊢
  by_cases h20 : c p < 28
  · rw [if_pos h20] at ok ⊢; exact kk _ (kp_mem _ _ _ _) ok
  rw [if_neg h20] at ok ⊢
  exact kk _ (kp_num _ _) ok
def wk (c : Nat → Nat) (n : Nat) (P : Nat → Nat) (f : Nat) : Nat → Nat → vt_St → Prop
  | 0, _, _ => False
  | k + 1, p, S => S.2.1 ≠ [] ∧ S.2.2 = false ∧ p < n ∧ c p ≤ 66 ∧ rd_R c n (c p) (true, p + 1) = (true, nx c p) ∧ nx c p ≤ n ∧ p < nx c p ∧ (2 ≤ c p ∧ c p ≤ 4 → pt_at c P p (nx c p) 0) ∧ (c p = 5 → S.2.1.tail ≠ [] ∧ f_c S.2.1 = 4 ∧ P (f_o S.2.1) = p) ∧ (v_st c n f p S).2.2 = false ∧ ((v_st c n f p S).2.1 = [] ∨ wk c n P f k (nx c p) (v_st c n f p S))
theorem gr_st {g : Nat} {K : List Nat} {F : List vt_Fr} (h : (vt_gr g (K, F, false)).2.2 = false) : ∃ K', vt_gr g (K, F, false) = (K', F, false) ∧ (g = 0 → K' = K) ∧ (g ≠ 0 → K' = g :: K ∧ K.length ≠ 20) := by
  unfold vt_gr vt_gv at h ⊢
  by_cases z : g = 0
  · rw [if_pos z]; exact ⟨K, rfl, fun _ => rfl, fun y => absurd z y⟩
  · rw [if_neg z] at h ⊢
    by_cases w : K.length = 20
    · rw [if_pos w] at h; exact ff_t h.symm
    · rw [if_neg w]; exact ⟨g :: K, rfl, fun y => absurd y z, fun _ => ⟨rfl, w⟩⟩
theorem gr_lo {g h : Nat} {K K' : List Nat} {F : List vt_Fr} (e : h ≤ K.length) (q : (g = 0 → K' = K) ∧ (g ≠ 0 → K' = g :: K ∧ K.length ≠ 20)) : h ≤ K'.length ∧ lo h K' = lo h K := by
  by_cases z : g = 0
  · rw [q.1 z]; exact ⟨e, rfl⟩
  · rw [(q.2 z).1]; exact ⟨by rw [List.length_cons]; omega, lo_cons e⟩
theorem wk_exit {c P : Nat → Nat} {n f : Nat} : ∀ k p K F d e, wk c n P f k p (K, F, false) → hn K.length F → SC c p d e → F.drop (d + 1) ≠ [] → ∃ k', wk c n P f k' (e + 1) (vt_gr (f_g (F.drop d)) (lo (f_h (F.drop d)) K, F.drop (d + 1), false)) := by
  intro k
  induction k with
  | zero => intro p K F d e h; exact h.elim
  | succ k ih =>
    intro p K F d e h hN hS hD
    obtain ⟨hF, _, _, _, _, _, _, _, _, ok, hw⟩ := h
    dsimp only at hF
    have hh := hn_top hN
    have hTn : F.tail ≠ [] := by
      intro z
      cases F with
      | nil => exact hF rfl
      | cons x F =>
        have z' : F = [] := z
        subst z'
        exact hD (by simp)
    have eD : ∀ i, F.drop (i + 1) = F.tail.drop i := by
      intro i
      cases F with
      | nil => exact absurd rfl hF
      | cons x F => rfl
    by_cases ho : 2 ≤ c p ∧ c p ≤ 4
    · obtain ⟨K', e1, e2, e3, _⟩ := vl_o ho hh ok
      rw [e1] at hw
      rcases hw with z | hw
      · exact absurd z (by simp)
      obtain ⟨k', w⟩ := ih (nx c p) K' _ (d + 1) e hw ⟨Nat.le_refl _, hn_mono hN e2⟩ ((SC_o ho).mp hS) hD
      rw [List.drop_succ_cons, List.drop_succ_cons] at w
      rw [lo_le (hn_drop F _ d hN) hh e2 e3] at w
      exact ⟨k', w⟩
    · by_cases h5 : c p = 5
      · obtain ⟨e1, _⟩ := vl_5 h5 hh ok
        rw [e1] at hw
        rcases hw with z | hw
        · exact absurd z (by simp)
        obtain ⟨k', w⟩ := ih (nx c p) _ _ d e hw ⟨by rw [lo_len hh]; exact Nat.le_refl _, hn_tail hN⟩ ((SC_n ho (by omega)).mp hS) (by rw [List.drop_succ_cons, ← eD]; exact hD)
        rw [List.drop_succ_cons, ← eD] at w
        cases d with
        | zero =>
          rw [List.drop_zero] at w ⊢
          have w' : wk c n P f k' (e + 1) (vt_gr (f_g F) (lo (f_h F) (lo (f_h F) K), F.drop (0 + 1), false)) := w
          rw [lo_lo (Nat.le_refl _) hh] at w'
          exact ⟨k', w'⟩
        | succ d =>
          rw [List.drop_succ_cons, ← eD, lo_lo (hn_drop F _ (d + 1) hN) hh] at w
          exact ⟨k', w⟩
      · by_cases h6 : c p = 6
        · obtain ⟨_, e1, _, _⟩ := vl_6 h6 hh ok
          rw [e1 hTn] at hw ok
          have enx : nx c p = p + 1 := nx_1 (by omega)
          rcases hw with z | hw
          · rw [fk_gr] at z; exact absurd z hTn
          cases d with
          | zero =>
            have := SC_uni hS (SC_e h6)
            subst this
            rw [enx] at hw
            rw [eD 0]
            exact ⟨k, hw⟩
          | succ d =>
            obtain ⟨K', g1, g2⟩ := gr_st ok
            obtain ⟨g3, g4⟩ := gr_lo (F := F) (h := f_h F) (by rw [lo_len hh]; exact Nat.le_refl _) g2
            rw [lo_lo (Nat.le_refl _) hh] at g4
            rw [g1] at hw
            have hle := hn_top (hn_tail hN)
            obtain ⟨k', w⟩ := ih (nx c p) K' F.tail d e hw (hn_mono (hn_tail hN) (by omega)) ((SC_6 h6).mp hS) (by rw [← eD]; exact hD)
            rw [← eD, ← eD, lo_le (hn_drop F _ (d + 1) hN) hh g3 g4] at w
            exact ⟨k', w⟩
        · obtain ⟨K', b, e1, e2, e3⟩ := vl_n ho h5 h6 hF hh ok
          rw [e1] at hw
          rcases hw with z | hw
          · exact absurd z (by simp)
          obtain ⟨k', w⟩ := ih (nx c p) _ _ d e hw ⟨e2, hn_tail hN⟩ ((SC_n ho h6).mp hS) (by rw [List.drop_succ_cons, ← eD]; exact hD)
          rw [List.drop_succ_cons, ← eD] at w
          cases d with
          | zero =>
            rw [List.drop_zero] at w ⊢
            have w' : wk c n P f k' (e + 1) (vt_gr (f_g F) (lo (f_h F) K', F.drop (0 + 1), false)) := w
            rw [e3] at w'
            exact ⟨k', w'⟩
          | succ d =>
            rw [List.drop_succ_cons, ← eD, lo_le (hn_drop F _ (d + 1) hN) hh e2 e3] at w
            exact ⟨k', w⟩
theorem wk_alt {c P : Nat → Nat} {n f : Nat} : ∀ k p K F d e, wk c n P f k p (K, F, false) → hn K.length F → SE c p d e → f_c (F.drop d) = 4 → F.drop (d + 1) ≠ [] → (c e = 5 → ∃ k', wk c n P f k' (e + 1) (lo (f_h (F.drop d)) K, (5, f_g (F.drop d), f_h (F.drop d), false, f_o (F.drop d)) :: F.drop (d + 1), false)) ∧ (c e = 6 → f_g (F.drop d) = 0) := by
  intro k
  induction k with
  | zero => intro p K F d e h; exact h.elim
  | succ k ih =>
    intro p K F d e h hN hS hC hD
    obtain ⟨hF, _, _, _, _, _, _, _, _, ok, hw⟩ := h
    dsimp only at hF
    have hh := hn_top hN
    have hTn : F.tail ≠ [] := by
      intro z
      cases F with
      | nil => exact hF rfl
      | cons x F =>
        have z' : F = [] := z
        subst z'
        exact hD (by simp)
    have eD : ∀ i, F.drop (i + 1) = F.tail.drop i := by
      intro i
      cases F with
      | nil => exact absurd rfl hF
      | cons x F => rfl
    by_cases ho : 2 ≤ c p ∧ c p ≤ 4
    · obtain ⟨K', e1, e2, e3, _⟩ := vl_o ho hh ok
      rw [e1] at hw
      rcases hw with z | hw
      · exact absurd z (by simp)
      have w := ih (nx c p) K' _ (d + 1) e hw ⟨Nat.le_refl _, hn_mono hN e2⟩ ((SE_o ho).mp hS) hC hD
      rw [List.drop_succ_cons, List.drop_succ_cons] at w
      rw [lo_le (hn_drop F _ d hN) hh e2 e3] at w
      exact w
    · by_cases h5 : c p = 5
      · obtain ⟨e1, _⟩ := vl_5 h5 hh ok
        rw [e1] at hw
        have enx : nx c p = p + 1 := nx_1 (by omega)
        rcases hw with z | hw
        · exact absurd z (by simp)
        cases d with
        | zero =>
          have := SE_uni hS (SE_5 h5)
          subst this
          rw [enx] at hw
          refine ⟨fun _ => ?_, fun z => absurd z (by omega)⟩
          rw [List.drop_zero, eD 0]
          exact ⟨k, hw⟩
        | succ d =>
          have w := ih (nx c p) _ _ (d + 1) e hw ⟨by rw [lo_len hh]; exact Nat.le_refl _, hn_tail hN⟩ ((SE_n ho (by omega) (by omega)).mp hS) (by rw [List.drop_succ_cons, ← eD]; exact hC) (by rw [List.drop_succ_cons, ← eD]; exact hD)
          rw [List.drop_succ_cons, List.drop_succ_cons, ← eD, ← eD, lo_lo (hn_drop F _ (d + 1) hN) hh] at w
          exact w
      · by_cases h6 : c p = 6
        · obtain ⟨_, e1, e0, _⟩ := vl_6 h6 hh ok
          rw [e1 hTn] at hw ok
          rcases hw with z | hw
          · rw [fk_gr] at z; exact absurd z hTn
          cases d with
          | zero =>
            have := SE_uni hS (SE_e h6)
            subst this
            exact ⟨fun z => absurd z (by omega), fun _ => e0 hC⟩
          | succ d =>
            obtain ⟨K', g1, g2⟩ := gr_st ok
            obtain ⟨g3, g4⟩ := gr_lo (F := F) (h := f_h F) (by rw [lo_len hh]; exact Nat.le_refl _) g2
            rw [lo_lo (Nat.le_refl _) hh] at g4
            rw [g1] at hw
            have hle := hn_top (hn_tail hN)
            have w := ih (nx c p) K' F.tail d e hw (hn_mono (hn_tail hN) (by omega)) ((SE_6 h6).mp hS) (by rw [← eD]; exact hC) (by rw [← eD]; exact hD)
            rw [← eD, ← eD, lo_le (hn_drop F _ (d + 1) hN) hh g3 g4] at w
            exact w
        · obtain ⟨K', b, e1, e2, e3⟩ := vl_n ho h5 h6 hF hh ok
          rw [e1] at hw
          rcases hw with z | hw
          · exact absurd z (by simp)
          cases d with
          | zero =>
            have w := ih (nx c p) _ _ 0 e hw ⟨e2, hn_tail hN⟩ ((SE_n ho h6 (by omega)).mp hS) hC (by rw [List.drop_succ_cons, ← eD]; exact hD)
            rw [List.drop_zero, List.drop_succ_cons, ← eD] at w
            have w' : (c e = 5 → ∃ k', wk c n P f k' (e + 1) (lo (f_h F) K', (5, f_g F, f_h F, false, f_o F) :: F.drop (0 + 1), false)) ∧ (c e = 6 → f_g F = 0) := w
            rw [e3] at w'
            exact w'
          | succ d =>
            have w := ih (nx c p) _ _ (d + 1) e hw ⟨e2, hn_tail hN⟩ ((SE_n ho h6 (by omega)).mp hS) (by rw [List.drop_succ_cons, ← eD]; exact hC) (by rw [List.drop_succ_cons, ← eD]; exact hD)
            rw [List.drop_succ_cons, List.drop_succ_cons, ← eD, ← eD, lo_le (hn_drop F _ (d + 1) hN) hh e2 e3] at w
            exact w
def lw : List Nat → Prop
  | [] => True
  | cd :: T => (T = [] → cd = 0) ∧ lw T
theorem wk_of {c P : Nat → Nat} {n f b : Nat} : ∀ k p (S : vt_St), S.2.2 = false → ib c n P k p (S.2.1.map (·.1)) → v_go c n f k p S = none → S.2.1 ≠ [] → lw (S.2.1.map (·.1)) → xi_ok c P p b 0 (co_l S.2.1) → jb_ok c P b p (co_l S.2.1) → wk c n P f k p S := by
  intro k
  induction k with
  | zero => intro p S _ h; exact h.elim
  | succ k ih =>
    intro p S hb h hg hF hl hx hj
    obtain ⟨i1, i2, i3, i4, i5, i6, i7⟩ := h
    rw [v_go, if_neg hF] at hg
    have ok : (v_st c n f p S).2.2 = false := by
      cases e : (v_st c n f p S).2.2 with
      | false => rfl
      | true => rw [if_pos e] at hg; exact nomatch hg
    rw [if_neg (by rw [ok]; decide)] at hg
    have hcd := v_codes hF ok
    have hco := v_co hF ok
    have h54 : c p = 5 → f_c S.2.1 = 4 ∧ S.2.1.tail ≠ [] := by
      intro h5
      rw [if_neg (by omega), if_pos h5] at i7
      cases e : S.2.1 with
      | nil => exact absurd e hF
      | cons x F =>
        rw [e] at i7 hl
        refine ⟨i7.1, fun z => ?_⟩
        have z' : F = [] := z
        subst z'
        have a := hl.1 rfl
        have b := i7.1
        simp only [List.map_cons, List.map_nil, List.headD_cons] at a b
        omega
    refine ⟨hF, hb, i1, i2, i3, i4, i5, i6, fun h5 => ?_, ok, ?_⟩
    · obtain ⟨a1, a2⟩ := h54 h5
      refine ⟨a2, a1, ?_⟩
      cases e : S.2.1 with
      | nil => exact absurd e hF
      | cons x F =>
        obtain ⟨cd, g, hh, dd, o⟩ := x
        rw [e] at hx a1 a2
        have z1 : cd = 4 := a1
        have z2 : F.map (fun x => (x.1, x.2.2.2.2)) ≠ [] := by
          intro z; exact a2 (List.map_eq_nil_iff.mp z)
        exact SE_uni ((hx.1 z2).1 z1) (SE_5 h5)
    · by_cases hE : (v_st c n f p S).2.1 = []
      · exact Or.inl hE
      refine Or.inr (ih _ _ ok ?_ hg hE ?_ ?_ ?_)
      · rw [hcd]
        unfold cod
        by_cases ho : 2 ≤ c p ∧ c p ≤ 4
        · rw [if_pos ho] at i7 ⊢; exact i7
        · rw [if_neg ho] at i7 ⊢
          by_cases h5 : c p = 5
          · rw [if_pos h5] at i7 ⊢; exact i7.2
          · rw [if_neg h5] at i7 ⊢
            by_cases h6 : c p = 6
            · rw [if_pos h6] at i7 ⊢
              rcases i7 with z | z
              · exfalso
                have : (v_st c n f p S).2.1.map (·.1) = [] := by rw [hcd, cod, if_neg ho, if_neg h5, if_pos h6]; exact z
                exact hE (List.map_eq_nil_iff.mp this)
              · exact z
            · rw [if_neg h6] at i7 ⊢; exact i7
      · rw [hcd]
        unfold cod
        have hm : S.2.1.map (·.1) ≠ [] := fun z => hF (List.map_eq_nil_iff.mp z)
        split
        · exact ⟨fun z => absurd z hm, hl⟩
        · split
          · rename_i h5
            obtain ⟨a1, a2⟩ := h54 h5
            cases e : S.2.1 with
            | nil => exact absurd e hF
            | cons x F =>
              rw [e] at hl a2
              refine ⟨fun z => absurd (List.map_eq_nil_iff.mp z) a2, hl.2⟩
          · split
            · cases e : S.2.1 with
              | nil => exact absurd e hF
              | cons x F => rw [e] at hl; exact hl.2
            · exact hl
      · have hT : co_l S.2.1 ≠ [] := fun z => hF (List.map_eq_nil_iff.mp z)
        have q := xi_step (n := n) hT i5 i6 (fun h5 => ?_) hx hj
        · rw [hco]; exact q.1
        · obtain ⟨a1, a2⟩ := h54 h5
          cases e : S.2.1 with
          | nil => exact absurd e hF
          | cons x F =>
            rw [e] at a1 a2
            exact ⟨a1, fun z => a2 (List.map_eq_nil_iff.mp z)⟩
      · have hT : co_l S.2.1 ≠ [] := fun z => hF (List.map_eq_nil_iff.mp z)
        have q := xi_step (n := n) hT i5 i6 (fun h5 => ?_) hx hj
        · rw [hco]; exact q.2
        · obtain ⟨a1, a2⟩ := h54 h5
          cases e : S.2.1 with
          | nil => exact absurd e hF
          | cons x F =>
            rw [e] at a1 a2
            exact ⟨a1, fun z => a2 (List.map_eq_nil_iff.mp z)⟩
