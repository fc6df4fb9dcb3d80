/-! 99: invoke -/
theorem i_vc_invoke {k : Nat} {u : SX} {v : SY} (I : i_Rel k u v) (hk : k + 9 ≤ 4608) (v1 : Int32) (v2 : Int32) (a2 : Int64) (a3 : Int64) (a4 : Int64) : wpX_invoke (fun r u' => wpY_invoke (fun r' v' => r' = r ∧ i_Rel (k + 9) u' v') v v1 v2 a2 a3 a4) u v1 v2 a2 a3 a4 := sorry
