section
variable {inp wd ki fi se th wa wv rs ws rv vl g : Nat → Int32} {c w i : Nat}
theorem dg_xcarry {P : SX → Prop} (hw : w ≤ 4) (hW : ∀ j, j < w → vp_in (wa j) 20 ∧ vp_in (wv j) 20) (h : P (nI c, nI w, inp, dg_wd wd wa wv g w, ki, fi, se, th, wa, wv, rs, ws, g)) : wpX_carryOutWrites P (nI c, nI w, inp, wd, ki, fi, se, th, wa, wv, rs, ws, g) := by
  have key : ∀ d j : Nat, j + d = w → wX_carryOutWrites_2 P (nI c) (nI w) (d + 1) (nI j) inp (dg_wd wd wa wv g j) ki fi se th wa wv rs ws g := by
    intro d
    induction d with
    | zero =>
      intro j hj
      obtain rfl : j = w := by omega
      exact br_t (nI_le (Nat.le_refl j) (by omega)) h
    | succ d ih =>
      intro j hj
      have e : (nI j).toNatClampNeg = j := nI_clamp (by omega)
      have t : vp_in (nI j) 4 := vp_in_nI (by omega) (by omega)
      have q := hW j (by omega)
      rw [wX_carryOutWrites_2]
      dsimp only
      rw [e]
      exact br_f (nI_ge (by omega) (by omega)) ⟨t, q.1, nm_e ⟨t, q.2, dg_in16 _, nm_e (nm_r (nI_1 j) (ih (j + 1) (by omega)))⟩⟩
  exact ⟨w + 1, key w 0 (Nat.zero_add w)⟩
theorem dg_xrun {P : Int32 → SX → Prop} (hc : c ≤ 20) (hw : w ≤ 4) (hO : ∀ j, j < c → dg_OK ki fi se th j) (hW : ∀ j, j < w → vp_in (wa j) 20 ∧ vp_in (wv j) 20) (h : P (dg_ct rs c) (nI c, nI w, inp, dg_wd wd wa wv (dg_rv inp wd ki fi se th rv c) w, ki, fi, se, th, wa, wv, rs, dg_ws rs ws c, dg_rv inp wd ki fi se th rv c)) : wpX_run P (nI c, nI w, inp, wd, ki, fi, se, th, wa, wv, rs, ws, rv) := by
  have key : ∀ d j : Nat, j + d = c → wX_run_4 P (nI c) (nI w) (d + 1) (dg_ct rs j) (nI j) inp wd ki fi se th wa wv rs (dg_ws rs ws j) (dg_rv inp wd ki fi se th rv j) := by
    intro d
    induction d with
    | zero =>
      intro j hj
      obtain rfl : j = c := by omega
      exact br_t (nI_le (Nat.le_refl j) (by omega)) (dg_xcarry hw hW h)
    | succ d ih =>
      intro j hj
      have e : (nI j).toNatClampNeg = j := nI_clamp (by omega)
      have t : vp_in (nI j) 20 := vp_in_nI (by omega) (by omega)
      have q := ih (j + 1) (by omega)
      rw [wX_run_4]
      dsimp only
      rw [e]
      refine br_f (nI_ge (by omega) (by omega)) (dg_xwork (by omega) (hO j (by omega)) ⟨t, nm_e ⟨t, t, nm_e ⟨t, ?_⟩⟩⟩)
      by_cases z : rs j = 0
      · have f : dg_ct rs (j + 1) = dg_ct rs j := if_pos z
        rw [f] at q
        exact br_t z (nm_r (nI_1 j) q)
      · have f : dg_ct rs (j + 1) = dg_ct rs j + 1 := if_neg z
        rw [f] at q
        exact br_f z (nm_e (nm_r (nI_1 j) q))
  exact ⟨c + 1, key c 0 (Nat.zero_add c)⟩
theorem dg_yrun3 {P : Int32 → SY → Prop} (hc : c ≤ 20) (h : P (dg_ct rs c) (nI c, nI w, ki, fi, se, th, rs, wa, wv, inp, wd, g, dg_ws rs ws c, dg_vl vl g c)) : ∃ n : Nat, wY_run_126 P (nI c) (nI w) n 0 0 ki fi se th rs wa wv inp wd g ws vl := by
  have key : ∀ d j : Nat, j + d = c → wY_run_126 P (nI c) (nI w) (d + 1) (dg_ct rs j) (nI j) ki fi se th rs wa wv inp wd g (dg_ws rs ws j) (dg_vl vl g j) := by
    intro d
    induction d with
    | zero =>
      intro j hj
      obtain rfl : j = c := by omega
      exact br_t (nI_le (Nat.le_refl j) (by omega)) h
    | succ d ih =>
      intro j hj
      have e : (nI j).toNatClampNeg = j := nI_clamp (by omega)
      have t : vp_in (nI j) 20 := vp_in_nI (by omega) (by omega)
      have q := ih (j + 1) (by omega)
      rw [wY_run_126]
      dsimp only
      rw [e]
      refine br_f (nI_ge (by omega) (by omega)) ⟨t, t, nm_e ⟨t, t, nm_e ⟨t, ?_⟩⟩⟩
      by_cases z : rs j = 0
      · have f : dg_ct rs (j + 1) = dg_ct rs j := if_pos z
        rw [f] at q
        exact br_t z (nm_r (nI_1 j) q)
      · have f : dg_ct rs (j + 1) = dg_ct rs j + 1 := if_neg z
        rw [f] at q
        exact br_f z (nm_e (nm_r (nI_1 j) q))
  exact ⟨c + 1, key c 0 (Nat.zero_add c)⟩
theorem dg_yrun2 {P : Int32 → SY → Prop} (hw : w ≤ 4) (hW : ∀ j, j < w → vp_in (wa j) 20 ∧ vp_in (wv j) 20) (h : ∃ n : Nat, wY_run_126 P (nI c) (nI w) n 0 0 ki fi se th rs wa wv inp (dg_wd wd wa wv g w) g ws vl) : ∃ n : Nat, wY_run_78 P (nI c) (nI w) n 0 ki fi se th rs wa wv inp wd g ws vl := by
  have key : ∀ d j : Nat, j + d = w → wY_run_78 P (nI c) (nI w) (d + 1) (nI j) ki fi se th rs wa wv inp (dg_wd wd wa wv g j) g ws vl := by
    intro d
    induction d with
    | zero =>
      intro j hj
      obtain rfl : j = w := by omega
      exact br_t (nI_le (Nat.le_refl j) (by omega)) h
    | succ d ih =>
      intro j hj
      have e : (nI j).toNatClampNeg = j := nI_clamp (by omega)
      have t : vp_in (nI j) 4 := vp_in_nI (by omega) (by omega)
      have q := hW j (by omega)
      rw [wY_run_78]
      dsimp only
      rw [e]
      exact br_f (nI_ge (by omega) (by omega)) ⟨t, q.1, t, q.2, dg_in16 _, nm_e (nm_r (nI_1 j) (ih (j + 1) (by omega)))⟩
  exact ⟨w + 1, key w 0 (Nat.zero_add w)⟩
theorem dg_y41 {P : Int32 → SY → Prop} {J : Int32 → (Nat → Int32) → (Nat → Int32) → (Nat → Int32) → (Nat → Int32) → (Nat → Int32) → (Nat → Int32) → (Nat → Int32) → (Nat → Int32) → (Nat → Int32) → (Nat → Int32) → (Nat → Int32) → (Nat → Int32) → Prop} (hi : i < 20) (hk : ki i = 0 ∨ (ki i = 1 ∧ vp_in (fi i) 6) ∨ (ki i = 5 ∧ vp_in (fi i) 20) ∨ (ki i = 6 ∧ vp_in (fi i) 20) ∨ (ki i = 7 ∧ vp_in (fi i) 20)) (h : J (nI (i + 1)) ki fi se th rs wa wv inp wd (upd g i (dg_val inp wd ki fi se th g i)) ws vl) : wY_run_41 P J (nI i) (nI c) (nI w) ki fi se th rs wa wv inp wd g ws vl := by
  have e : (nI i).toNatClampNeg = i := nI_clamp (by omega)
  have t : vp_in (nI i) 20 := vp_in_nI hi (by omega)
  unfold wY_run_41 wY_run_46
  rw [e]
  exact br_f (by decide) (dg_yplain hi hk ⟨t, nm_e (nm_r (nI_1 i) h)⟩)
theorem dg_y45 {P : Int32 → SY → Prop} {J : Int32 → (Nat → Int32) → (Nat → Int32) → (Nat → Int32) → (Nat → Int32) → (Nat → Int32) → (Nat → Int32) → (Nat → Int32) → (Nat → Int32) → (Nat → Int32) → (Nat → Int32) → (Nat → Int32) → (Nat → Int32) → Prop} (hi : i < 20) (hk : (ki i = 2 ∧ vp_in (fi i) 20 ∧ vp_in (se i) 20) ∨ (ki i = 3 ∧ vp_in (fi i) 20 ∧ vp_in (se i) 20) ∨ (ki i = 4 ∧ vp_in (fi i) 20 ∧ vp_in (se i) 20) ∨ (ki i = 8 ∧ vp_in (fi i) 20 ∧ vp_in (se i) 20) ∨ (ki i = 9 ∧ vp_in (fi i) 20 ∧ vp_in (se i) 20 ∧ vp_in (th i) 20)) (h : J (nI (i + 1)) ki fi se th rs wa wv inp wd (upd g i (dg_val inp wd ki fi se th g i)) ws vl) : wY_run_45 P J (nI i) (nI c) (nI w) ki fi se th rs wa wv inp wd g ws vl := by
  have e : (nI i).toNatClampNeg = i := nI_clamp (by omega)
  have t : vp_in (nI i) 20 := vp_in_nI hi (by omega)
  unfold wY_run_45 wY_run_46
  rw [e]
  exact br_t rfl (dg_ycomp hi hk ⟨t, nm_e (nm_r (nI_1 i) h)⟩)
theorem dg_yrun1 {P : Int32 → SY → Prop} (hc : c ≤ 20) (hO : ∀ j, j < c → dg_OK ki fi se th j) (h : ∃ n : Nat, wY_run_78 P (nI c) (nI w) n 0 ki fi se th rs wa wv inp wd (dg_rv inp wd ki fi se th rv c) ws vl) : ∃ n : Nat, wY_run_2 P (nI c) (nI w) n 0 ki fi se th rs wa wv inp wd rv ws vl := by
  have key : ∀ d j : Nat, j + d = c → wY_run_2 P (nI c) (nI w) (d + 1) (nI j) ki fi se th rs wa wv inp wd (dg_rv inp wd ki fi se th rv j) ws vl := by
    intro d
    induction d with
    | zero =>
      intro j hj
      obtain rfl : j = c := by omega
      exact br_t (nI_le (Nat.le_refl j) (by omega)) h
    | succ d ih =>
      intro j hj
      have e : (nI j).toNatClampNeg = j := nI_clamp (by omega)
      have t : vp_in (nI j) 20 := vp_in_nI (by omega) (by omega)
      have hi : j < 20 := by omega
      have q := ih (j + 1) (by omega)
      rw [wY_run_2]
      dsimp only
      rw [e]
      refine br_f (nI_ge (by omega) (by omega)) ⟨t, ?_⟩
      rcases hO j (by omega) with k0 | ⟨k0, f0⟩ | ⟨k0, f0, s0⟩ | ⟨k0, f0, s0⟩ | ⟨k0, f0, s0⟩ | ⟨k0, f0⟩ | ⟨k0, f0⟩ | ⟨k0, f0⟩ | ⟨k0, f0, s0⟩ | ⟨k0, f0, s0, t0⟩
      · exact br_t (by rw [k0]; decide) (dg_y41 hi (Or.inl k0) q)
      · exact br_t (by rw [k0]; decide) (dg_y41 hi (Or.inr (Or.inl ⟨k0, f0⟩)) q)
      · exact br_f (by rw [k0]; decide) ⟨t, br_t (by rw [k0]; decide) (dg_y45 hi (Or.inl ⟨k0, f0, s0⟩) q)⟩
      · exact br_f (by rw [k0]; decide) ⟨t, br_t (by rw [k0]; decide) (dg_y45 hi (Or.inr (Or.inl ⟨k0, f0, s0⟩)) q)⟩
      · exact br_f (by rw [k0]; decide) ⟨t, br_t (by rw [k0]; decide) (dg_y45 hi (Or.inr (Or.inr (Or.inl ⟨k0, f0, s0⟩))) q)⟩
      · exact br_f (by rw [k0]; decide) ⟨t, br_f (by rw [k0]; decide) ⟨t, br_f (by rw [k0]; decide) (dg_y41 hi (Or.inr (Or.inr (Or.inl ⟨k0, f0⟩))) q)⟩⟩
      · exact br_f (by rw [k0]; decide) ⟨t, br_f (by rw [k0]; decide) ⟨t, br_f (by rw [k0]; decide) (dg_y41 hi (Or.inr (Or.inr (Or.inr (Or.inl ⟨k0, f0⟩)))) q)⟩⟩
      · exact br_f (by rw [k0]; decide) ⟨t, br_f (by rw [k0]; decide) ⟨t, br_f (by rw [k0]; decide) (dg_y41 hi (Or.inr (Or.inr (Or.inr (Or.inr (⟨k0, f0⟩))))) q)⟩⟩
      · exact br_f (by rw [k0]; decide) ⟨t, br_f (by rw [k0]; decide) ⟨t, br_t (by rw [k0]; decide) (dg_y45 hi (Or.inr (Or.inr (Or.inr (Or.inl ⟨k0, f0, s0⟩)))) q)⟩⟩
      · exact br_f (by rw [k0]; decide) ⟨t, br_f (by rw [k0]; decide) ⟨t, br_t (by rw [k0]; decide) (dg_y45 hi (Or.inr (Or.inr (Or.inr (Or.inr (⟨k0, f0, s0, t0⟩))))) q)⟩⟩
  exact ⟨c + 1, key c 0 (Nat.zero_add c)⟩
end
