theorem i_vc_run {k : Nat} {u : SX} {v : SY} (I : i_Rel k u v) (hk : k + 4 ≤ 2048) : wpX_run (fun r u' => wpY_run (fun r' v' => r' = r ∧ i_Rel (k + 4) u' v') v) u := by
  obtain ⟨c, w, inp, wd, ki, fi, se, th, wa, wv, rs, ws, rv, hc, hw, hO, hW, rfl, rfl⟩ := I
  refine dg_xrun hc hw hO hW ?_
  refine dg_yrun1 hc hO (dg_yrun2 hw hW (dg_yrun3 hc ⟨rfl, ?_⟩))
  rw [dg_vlR]
  exact dg_rel hc hw hO hW
