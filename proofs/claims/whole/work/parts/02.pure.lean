/-! 02: the pure pictures of reading -/
/-- one byte: at (ok, place), within its limits -/
def rd_ok (c : Nat → Nat) (n lo hi : Nat) (q : Bool × Nat) : Prop := q.1 = true ∧ q.2 < n ∧ lo ≤ c q.2 ∧ c q.2 ≤ hi
noncomputable def rd_tk (c : Nat → Nat) (n lo hi : Nat) (q : Bool × Nat) : Bool × Nat :=
  if q.1 = true ∧ q.2 < n ∧ lo ≤ c q.2 ∧ c q.2 ≤ hi then (true, q.2 + 1) else (false, q.2)
noncomputable def rd_tv (c : Nat → Nat) (n lo hi : Nat) (q : Bool × Nat) : Nat :=
  if q.1 = true ∧ q.2 < n ∧ lo ≤ c q.2 ∧ c q.2 ≤ hi then c q.2 else lo
/-- what X keeps fixed while it reads: the draft's bytes and their number -/
def cx_ok (u : SX) (c : Nat → Nat) (n : Nat) : Prop :=
  gx_byteCount u = nI n ∧ n ≤ 140 ∧ (∀ i, i < 140 → gx_code u (280 + i) = nI (c i)) ∧ (∀ i, c i < 256)
theorem xr_byte {u : SX} {c : Nat → Nat} {n p : Nat} {post : Int32 → SX → Prop} (C : cx_ok u c n) (hp : gx_at u = nI p) (h30 : p < 2 ^ 30) (lo hi : Nat) (hl : lo < 256) (hh : hi < 256)
    (ht : p < n → lo ≤ c p → c p ≤ hi → post (nI (c p)) (sx_at u (nI (p + 1)))) (hf : ¬ (p < n ∧ lo ≤ c p ∧ c p ≤ hi) → post (-1) u) : wpX_readByte post u (nI lo) (nI hi) := by
  obtain ⟨hn, h140, hc, h256⟩ := C
  have hcp := h256 p
  refine pk_lt p 0 (fun h => absurd h (by omega)) (fun _ => ?_) hp
  refine pk_le n p (fun h => hf (by omega)) (fun hpn => ?_) hn hp
  refine pk_lt p 140 (fun h4 => ?_) (fun h => absurd h (by omega)) hp
  have e : (280 : Int32) + gx_at u = nI (280 + p) := by rw [hp]; exact nI_add 280 p
  refine ⟨pk_in (280 + p) 420 (by omega) e, ?_⟩
  refine nm_r (show _ = nI (c p) from ?_) ?_
  · show gx_code u ((280 : Int32) + gx_at u).toNatClampNeg = _
    rw [pk_cl (280 + p) e]
    exact hc p h4
  · refine pk_lt (c p) lo (fun h => hf (by omega)) (fun h1 => ?_)
    refine pk_le (c p) hi (fun h2 => ?_) (fun h => hf (by omega))
    refine nm_r (show gx_at u + 1 = nI (p + 1) from by rw [hp]; exact nI_1 p) ?_
    exact ht hpn h1 h2
