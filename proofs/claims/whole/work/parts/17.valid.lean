abbrev vt_Fr : Type := Nat × Nat × Nat × Bool × Nat
abbrev vt_St : Type := List Nat × List vt_Fr × Bool
def f_c (F : List vt_Fr) : Nat := (F.headD (0, 0, 0, false, 0)).1
def f_g (F : List vt_Fr) : Nat := (F.headD (0, 0, 0, false, 0)).2.1
def f_h (F : List vt_Fr) : Nat := (F.headD (0, 0, 0, false, 0)).2.2.1
def f_d (F : List vt_Fr) : Bool := (F.headD (0, 0, 0, false, 0)).2.2.2.1
def f_o (F : List vt_Fr) : Nat := (F.headD (0, 0, 0, false, 0)).2.2.2.2
def f_b : List vt_Fr → Nat
  | [] => 0
  | (_, g, _) :: F => if F = [] then g else f_b F
def vt_bad (S : vt_St) (b : Bool) : vt_St := (S.1, S.2.1, S.2.2 || b)
def pl_f (x k : Nat) : Bool := if x ≠ 0 ∧ k ≠ 0 ∧ x ≠ k then true else false
def vt_pl (k : Nat) (S : vt_St) : vt_St :=
  if S.1.length = f_h S.2.1 then (S.1, S.2.1, S.2.2 || !f_d S.2.1) else (S.1.tail, S.2.1, S.2.2 || pl_f (S.1.headD 0) k)
def vt_px (k : Nat) (S : vt_St) : Nat := if S.1.length = f_h S.2.1 then k else S.1.headD 0
def vt_gv (k : Nat) (S : vt_St) : vt_St := if S.1.length = 20 then (S.1, S.2.1, true) else (k :: S.1, S.2.1, S.2.2)
def vt_pr (k : Nat) (S : vt_St) : vt_St := if k = 0 then S else vt_pl k S
def vt_gr (k : Nat) (S : vt_St) : vt_St := if k = 0 then S else vt_gv k S
def vt_die (S : vt_St) : vt_St := (S.1.drop (S.1.length - f_h S.2.1), (f_c S.2.1, f_g S.2.1, f_h S.2.1, true, f_o S.2.1) :: S.2.1.tail, S.2.2)
def vt_open (op x o : Nat) (S : vt_St) : vt_St := if S.2.1.length = 8 then (S.1, S.2.1, true) else (S.1, (op, x, S.1.length, false, o) :: S.2.1, S.2.2)
def vt_w (d : Nat) (S : vt_St) : Nat := if S.2.1.length ≤ d then 0 else if f_c (S.2.1.drop d) = 3 then 0 else f_g (S.2.1.drop d)
def vt_ws (d : Nat) (S : vt_St) : vt_St := vt_bad S (decide (S.2.1.length ≤ d))
def vt_cl (op : Nat) (S : vt_St) : vt_St := (vt_bad (vt_pr (f_g S.2.1) S) (decide ((vt_pr (f_g S.2.1) S).1.length ≠ f_h S.2.1 ∨ (op = 6 ∧ f_c S.2.1 = 4 ∧ f_g S.2.1 ≠ 0))))
def vt_close (op : Nat) (S : vt_St) : vt_St :=
  if op = 5 then ((vt_cl op S).1, (5, f_g S.2.1, f_h S.2.1, false, f_o S.2.1) :: S.2.1.tail, (vt_cl op S).2.2)
  else if S.2.1.tail = [] then ((vt_cl op S).1, [], (vt_cl op S).2.2)
  else vt_gr (f_g S.2.1) ((vt_cl op S).1, S.2.1.tail, (vt_cl op S).2.2)
def vt_tb (c : Nat → Nat) (w : Nat) : Nat → Nat → vt_St → vt_St
  | 0, _, S => S
  | r + 1, p, S => vt_tb c w r (p + 1) (vt_bad (vt_ws (c p) S) (decide (vt_w (c p) S ≠ w)))
def vt_table (c : Nat → Nat) (p : Nat) (S : vt_St) : vt_St :=
  vt_die (vt_pr (vt_w (c (p + 1 + c (p + 1) + 1)) (vt_pl 1 S)) (vt_tb c (vt_w (c (p + 1 + c (p + 1) + 1)) (vt_pl 1 S)) (c (p + 1)) (p + 2) (vt_ws (c (p + 1 + c (p + 1) + 1)) (vt_pl 1 S))))
def ty_r (c : Nat → Nat) (p : Nat) : Nat := if c (p + 1 + c p) = 0 then 0 else c (p + 1 + c p + 1)
def vt_ps (c : Nat → Nat) (t : Nat) : Nat → vt_St → vt_St
  | 0, S => S
  | k + 1, S => vt_ps c t k (vt_pl (c (t + 1 + k)) S)
def cl_t (c : Nat → Nat) (n op x : Nat) : Option Nat :=
  if op = 11 then (if x < m_I c n + m_F c n ∧ c (m_fa c n x) < c 0 then some (m_ty c n (c (m_fa c n x))) else none) else if x < c 0 then some (m_ty c n x) else none
def vt_call (c : Nat → Nat) (n op x : Nat) (S : vt_St) : vt_St :=
  match cl_t c n op x with
  | none => vt_bad S true
  | some t => vt_gr (ty_r c t) (vt_ps c t (c t) (if op = 12 then vt_pl 1 S else S))
def vk (c : Nat → Nat) (n f v : Nat) : Nat :=
  if v < c (m_ty c n (c (m_fa c n f))) then c (m_ty c n (c (m_fa c n f)) + 1 + v)
  else if v - c (m_ty c n (c (m_fa c n f))) < c (m_fa c n f + 1) then c (m_fa c n f + 2 + (v - c (m_ty c n (c (m_fa c n f))))) else 0
def m_ga (c : Nat → Nat) (n g : Nat) : Nat := (rd_it (rd_g c n) g (true, m_pG c n + 1)).2
def vt_var (c : Nat → Nat) (n f op x : Nat) (S : vt_St) : vt_St :=
  if op = 15 then vt_gv (vk c n f x) (vt_bad S (decide (vk c n f x = 0)))
  else if op = 16 then vt_pl (vk c n f x) (vt_bad S (decide (vk c n f x = 0)))
  else if op = 17 then vt_gv (vk c n f x) (vt_pl (vk c n f x) (vt_bad S (decide (vk c n f x = 0))))
  else if x < c (m_pG c n) then
    (if op = 18 then vt_gv (c (m_ga c n x)) S else vt_pl (c (m_ga c n x)) (vt_bad S (decide (c (m_ga c n x + 1) = 0))))
  else (if op = 18 then vt_gv 0 (vt_bad S true) else vt_pl 0 (vt_bad S true))
def vt_mem (c : Nat → Nat) (n op : Nat) (S : vt_St) : vt_St :=
  if op < 22 then vt_gv (op - 19) S
  else if op < 25 then vt_gv (if op = 24 then 2 else 1) (vt_pl 1 (vt_bad S (decide (c (tl_m c n (m_pG c n)) = 0))))
  else vt_pl 1 (vt_pl (if op = 27 then 2 else 1) (vt_bad S (decide (c (tl_m c n (m_pG c n)) = 0))))
def vt_num (op : Nat) (S : vt_St) : vt_St :=
  vt_gv (if op < 52 then 1 else if op < 64 then 2 else if op = 64 then 1 else 2) (if op = 28 ∨ op = 46 ∨ 64 ≤ op then vt_pl (if 46 ≤ op ∧ op ≤ 64 then 2 else 1) S else vt_pl (if 46 ≤ op ∧ op ≤ 64 then 2 else 1) (vt_pl (if 46 ≤ op ∧ op ≤ 64 then 2 else 1) S))
def vt_sel (S : vt_St) : vt_St := vt_gv (if vt_px 0 (vt_pl 1 S) = 0 then vt_px (vt_px 0 (vt_pl 1 S)) (vt_pl 0 (vt_pl 1 S)) else vt_px 0 (vt_pl 1 S)) (vt_pl (vt_px 0 (vt_pl 1 S)) (vt_pl 0 (vt_pl 1 S)))
def v_st (c : Nat → Nat) (n f p : Nat) (S : vt_St) : vt_St :=
  if c p = 0 then vt_die S
  else if c p = 1 then S
  else if c p = 2 ∨ c p = 3 then vt_open (c p) (c (p + 1)) p S
  else if c p = 4 then vt_open 4 (c (p + 1)) p (vt_pl 1 S)
  else if c p = 5 ∨ c p = 6 then vt_close (c p) S
  else if c p = 7 then vt_die (vt_pr (vt_w (c (p + 1)) S) (vt_ws (c (p + 1)) S))
  else if c p = 8 then vt_gr (vt_w (c (p + 1)) (vt_pl 1 S)) (vt_pr (vt_w (c (p + 1)) (vt_pl 1 S)) (vt_ws (c (p + 1)) (vt_pl 1 S)))
  else if c p = 9 then vt_table c p S
  else if c p = 10 then vt_die (vt_pr (f_b S.2.1) S)
  else if c p = 11 ∨ c p = 12 then vt_call c n (c p) (c (p + 1)) S
  else if c p = 13 then vt_pl 0 S
  else if c p = 14 then vt_sel S
  else if c p < 20 then vt_var c n f (c p) (c (p + 1)) S
  else if c p < 28 then vt_mem c n (c p) S
  else vt_num (c p) S
def v_go (c : Nat → Nat) (n f : Nat) : Nat → Nat → vt_St → Option Nat
  | 0, _, _ => none
  | k + 1, p, S => if S.2.1 = [] then none else if (v_st c n f p S).2.2 = true then some p else v_go c n f k (nx c p) (v_st c n f p S)
def m_bo (c : Nat → Nat) (n f : Nat) : Nat := m_fa c n f + 2 + c (m_fa c n f + 1)
def v_0 (c : Nat → Nat) (n f : Nat) : vt_St := ([], [(0, ty_r c (m_ty c n (c (m_fa c n f))), 0, false, m_bo c n f)], false)
def sn_F : Nat → List vt_Fr → Prop
  | _, [] => True
  | t, (cd, g, h, _, _) :: F => h ≤ t ∧ g ≤ 2 ∧ cd ≤ 5 ∧ sn_F h F
def sn_K (K : List Nat) : Prop := ∀ k, k ∈ K → k ≤ 2
def sn (S : vt_St) : Prop := S.1.length ≤ 20 ∧ S.2.1.length ≤ 8 ∧ sn_K S.1 ∧ sn_F S.1.length S.2.1
def y_sh (cd : Nat) : Nat := if cd = 0 ∨ cd = 5 then 2 else cd
def yv_K (KI : Nat → Int32) : List Nat → Prop
  | [] => True
  | k :: K => KI K.length = nI k ∧ yv_K KI K
def yv_F (SH GI HE DE : Nat → Int32) : List vt_Fr → Prop
  | [] => True
  | (cd, g, h, d, _) :: F => SH F.length = nI (y_sh cd) ∧ GI F.length = nI g ∧ HE F.length = nI h ∧ DE F.length = bb_i d ∧ yv_F SH GI HE DE F
def YV (S : vt_St) (KI SH GI HE DE : Nat → Int32) : Prop := yv_K KI S.1 ∧ yv_F SH GI HE DE S.2.1 ∧ sn S
theorem yv_K_ext {A A' : Nat → Int32} : ∀ K : List Nat, yv_K A K → (∀ j, j < K.length → A' j = A j) → yv_K A' K := by
  intro K
  induction K with
  | nil => intro _ _; trivial
  | cons x K ih =>
    intro h e
    obtain ⟨h1, h2⟩ := h
    refine ⟨?_, ih h2 (fun j hj => e j (by simp only [List.length_cons]; omega))⟩
    rw [e _ (by simp only [List.length_cons]; omega)]
    exact h1
theorem yv_F_ext {SH GI HE DE SH' GI' HE' DE' : Nat → Int32} : ∀ F : List vt_Fr, yv_F SH GI HE DE F → (∀ j, j < F.length → SH' j = SH j) → (∀ j, j < F.length → GI' j = GI j) → (∀ j, j < F.length → HE' j = HE j) → (∀ j, j < F.length → DE' j = DE j) → yv_F SH' GI' HE' DE' F := by
  intro F
  induction F with
  | nil => intro _ _ _ _ _; trivial
  | cons x F ih =>
    intro h e1 e2 e3 e4
    obtain ⟨cd, g, hh, d, o⟩ := x
    obtain ⟨h1, h2, h3, h4, h5⟩ := h
    have hl : F.length < (List.length ((cd, g, hh, d, o) :: F)) := by simp only [List.length_cons]; omega
    exact ⟨by rw [e1 _ hl]; exact h1, by rw [e2 _ hl]; exact h2, by rw [e3 _ hl]; exact h3, by rw [e4 _ hl]; exact h4, ih h5 (fun j hj => e1 j (by omega)) (fun j hj => e2 j (by omega)) (fun j hj => e3 j (by omega)) (fun j hj => e4 j (by omega))⟩
theorem sn_F_mono {F : List vt_Fr} {t t' : Nat} (h : sn_F t F) (ht : t ≤ t') : sn_F t' F := by
  cases F with
  | nil => trivial
  | cons x F =>
    obtain ⟨cd, g, hh, d, o⟩ := x
    obtain ⟨h1, h2, h3, h4⟩ := h
    exact ⟨by omega, h2, h3, h4⟩
theorem sn_K_t {K : List Nat} (h : sn_K K) : sn_K K.tail := fun k hk => h k (List.mem_of_mem_tail hk)
theorem sn_hd {K : List Nat} (h : sn_K K) : K.headD 0 ≤ 2 := by
  cases K with
  | nil => exact Nat.zero_le 2
  | cons k K => exact h k (by simp)
theorem yv_bot {SH GI HE DE : Nat → Int32} : ∀ F : List vt_Fr, F ≠ [] → yv_F SH GI HE DE F → GI 0 = nI (f_b F) := by
  intro F
  induction F with
  | nil => intro h; exact absurd rfl h
  | cons x F ih =>
    intro _ h
    obtain ⟨cd, g, hh, d, o⟩ := x
    obtain ⟨h1, h2, h3, h4, h5⟩ := h
    rw [f_b]
    by_cases e : F = []
    · rw [if_pos e]; subst e; exact h2
    · rw [if_neg e]; exact ih e h5
theorem sn_bot : ∀ (F : List vt_Fr) t, sn_F t F → f_b F ≤ 2 := by
  intro F
  induction F with
  | nil => intro t _; exact Nat.zero_le 2
  | cons x F ih =>
    intro t h
    obtain ⟨cd, g, hh, d, o⟩ := x
    obtain ⟨h1, h2, h3, h4⟩ := h
    rw [f_b]
    split
    · exact h2
    · exact ih hh h4
theorem yv_drop {SH GI HE DE : Nat → Int32} : ∀ (F : List vt_Fr) d, d < F.length → yv_F SH GI HE DE F → SH (F.length - 1 - d) = nI (y_sh (f_c (F.drop d))) ∧ GI (F.length - 1 - d) = nI (f_g (F.drop d)) := by
  intro F
  induction F with
  | nil => intro d hd; simp at hd
  | cons x F ih =>
    intro d hd h
    obtain ⟨cd, g, hh, dd, o⟩ := x
    obtain ⟨h1, h2, h3, h4, h5⟩ := h
    cases d with
    | zero => simp only [List.length_cons, Nat.add_sub_cancel, Nat.sub_zero]; exact ⟨h1, h2⟩
    | succ d =>
      simp only [List.length_cons] at hd ⊢
      have := ih d (by omega) h5
      rw [show F.length + 1 - 1 - (d + 1) = F.length - 1 - d by omega]
      exact this
theorem sn_drop : ∀ (F : List vt_Fr) d t, sn_F t F → f_c (F.drop d) ≤ 5 ∧ f_g (F.drop d) ≤ 2 := by
  intro F
  induction F with
  | nil => intro d t _; simp [f_c, f_g]
  | cons x F ih =>
    intro d t h
    obtain ⟨cd, g, hh, dd, o⟩ := x
    obtain ⟨h1, h2, h3, h4⟩ := h
    cases d with
    | zero => exact ⟨h3, h2⟩
    | succ d => exact ih d hh h4
