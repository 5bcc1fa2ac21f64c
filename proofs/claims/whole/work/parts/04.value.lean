section
/-- the value of node i, by its kind; g: the values of the nodes ahead of it -/
def dg_val (inp wd ki fi se th g : Nat → Int32) (i : Nat) : Int32 :=
  if ki i = 0 then fi i else
  if ki i = 1 then inp (fi i).toNatClampNeg else
  if ki i = 2 then g (fi i).toNatClampNeg + g (se i).toNatClampNeg else
  if ki i = 3 then g (fi i).toNatClampNeg - g (se i).toNatClampNeg else
  if ki i = 4 then g (fi i).toNatClampNeg * g (se i).toNatClampNeg else
  if ki i = 5 then -(g (fi i).toNatClampNeg) else
  if ki i = 6 then g (fi i).toNatClampNeg <<< (se i &&& 31) else
  if ki i = 7 then wd (g (fi i).toNatClampNeg &&& 15).toNatClampNeg else
  if ki i = 8 then (if g (se i).toNatClampNeg ≤ g (fi i).toNatClampNeg then 0 else 1) else
  if g (fi i).toNatClampNeg = 0 then g (th i).toNatClampNeg else g (se i).toNatClampNeg
variable {inp wd ki fi se th wa wv rs ws rv g : Nat → Int32} {c w i : Nat}
theorem dg_v0 (h : ki i = 0) : dg_val inp wd ki fi se th g i = (fi i) := by
  unfold dg_val
  rw [h, if_pos rfl]
theorem dg_v1 (h : ki i = 1) : dg_val inp wd ki fi se th g i = (inp (fi i).toNatClampNeg) := by
  unfold dg_val
  rw [h, if_neg (show ¬ (1 : Int32) = 0 by decide), if_pos rfl]
theorem dg_v2 (h : ki i = 2) : dg_val inp wd ki fi se th g i = (g (fi i).toNatClampNeg + g (se i).toNatClampNeg) := by
  unfold dg_val
  rw [h, if_neg (show ¬ (2 : Int32) = 0 by decide), if_neg (show ¬ (2 : Int32) = 1 by decide), if_pos rfl]
theorem dg_v3 (h : ki i = 3) : dg_val inp wd ki fi se th g i = (g (fi i).toNatClampNeg - g (se i).toNatClampNeg) := by
  unfold dg_val
  rw [h, if_neg (show ¬ (3 : Int32) = 0 by decide), if_neg (show ¬ (3 : Int32) = 1 by decide), if_neg (show ¬ (3 : Int32) = 2 by decide), if_pos rfl]
theorem dg_v4 (h : ki i = 4) : dg_val inp wd ki fi se th g i = (g (fi i).toNatClampNeg * g (se i).toNatClampNeg) := by
  unfold dg_val
  rw [h, if_neg (show ¬ (4 : Int32) = 0 by decide), if_neg (show ¬ (4 : Int32) = 1 by decide), if_neg (show ¬ (4 : Int32) = 2 by decide), if_neg (show ¬ (4 : Int32) = 3 by decide), if_pos rfl]
theorem dg_v5 (h : ki i = 5) : dg_val inp wd ki fi se th g i = (-(g (fi i).toNatClampNeg)) := by
  unfold dg_val
  rw [h, if_neg (show ¬ (5 : Int32) = 0 by decide), if_neg (show ¬ (5 : Int32) = 1 by decide), if_neg (show ¬ (5 : Int32) = 2 by decide), if_neg (show ¬ (5 : Int32) = 3 by decide), if_neg (show ¬ (5 : Int32) = 4 by decide), if_pos rfl]
theorem dg_v6 (h : ki i = 6) : dg_val inp wd ki fi se th g i = (g (fi i).toNatClampNeg <<< (se i &&& 31)) := by
  unfold dg_val
  rw [h, if_neg (show ¬ (6 : Int32) = 0 by decide), if_neg (show ¬ (6 : Int32) = 1 by decide), if_neg (show ¬ (6 : Int32) = 2 by decide), if_neg (show ¬ (6 : Int32) = 3 by decide), if_neg (show ¬ (6 : Int32) = 4 by decide), if_neg (show ¬ (6 : Int32) = 5 by decide), if_pos rfl]
theorem dg_v7 (h : ki i = 7) : dg_val inp wd ki fi se th g i = (wd (g (fi i).toNatClampNeg &&& 15).toNatClampNeg) := by
  unfold dg_val
  rw [h, if_neg (show ¬ (7 : Int32) = 0 by decide), if_neg (show ¬ (7 : Int32) = 1 by decide), if_neg (show ¬ (7 : Int32) = 2 by decide), if_neg (show ¬ (7 : Int32) = 3 by decide), if_neg (show ¬ (7 : Int32) = 4 by decide), if_neg (show ¬ (7 : Int32) = 5 by decide), if_neg (show ¬ (7 : Int32) = 6 by decide), if_pos rfl]
theorem dg_v8 (h : ki i = 8) : dg_val inp wd ki fi se th g i = (if g (se i).toNatClampNeg ≤ g (fi i).toNatClampNeg then 0 else 1) := by
  unfold dg_val
  rw [h, if_neg (show ¬ (8 : Int32) = 0 by decide), if_neg (show ¬ (8 : Int32) = 1 by decide), if_neg (show ¬ (8 : Int32) = 2 by decide), if_neg (show ¬ (8 : Int32) = 3 by decide), if_neg (show ¬ (8 : Int32) = 4 by decide), if_neg (show ¬ (8 : Int32) = 5 by decide), if_neg (show ¬ (8 : Int32) = 6 by decide), if_neg (show ¬ (8 : Int32) = 7 by decide), if_pos rfl]
theorem dg_v9 (h : ki i = 9) : dg_val inp wd ki fi se th g i = (if g (fi i).toNatClampNeg = 0 then g (th i).toNatClampNeg else g (se i).toNatClampNeg) := by
  unfold dg_val
  rw [h, if_neg (show ¬ (9 : Int32) = 0 by decide), if_neg (show ¬ (9 : Int32) = 1 by decide), if_neg (show ¬ (9 : Int32) = 2 by decide), if_neg (show ¬ (9 : Int32) = 3 by decide), if_neg (show ¬ (9 : Int32) = 4 by decide), if_neg (show ¬ (9 : Int32) = 5 by decide), if_neg (show ¬ (9 : Int32) = 6 by decide), if_neg (show ¬ (9 : Int32) = 7 by decide), if_neg (show ¬ (9 : Int32) = 8 by decide)]
/-- the values, marks, count and words after i nodes, or i writes -/
def dg_rv (inp wd ki fi se th rv : Nat → Int32) : Nat → Nat → Int32
  | 0 => rv
  | n + 1 => upd (dg_rv inp wd ki fi se th rv n) n (dg_val inp wd ki fi se th (dg_rv inp wd ki fi se th rv n) n)
def dg_ws (rs ws : Nat → Int32) : Nat → Nat → Int32
  | 0 => ws
  | n + 1 => upd (dg_ws rs ws n) n (vp_nar .boolean (rs n))
def dg_ct (rs : Nat → Int32) : Nat → Int32
  | 0 => 0
  | n + 1 => if rs n = 0 then dg_ct rs n else dg_ct rs n + 1
def dg_wd (wd wa wv g : Nat → Int32) : Nat → Nat → Int32
  | 0 => wd
  | n + 1 => upd (dg_wd wd wa wv g n) (g (wa n).toNatClampNeg &&& 15).toNatClampNeg (g (wv n).toNatClampNeg)
def dg_vl (vl g : Nat → Int32) : Nat → Nat → Int32
  | 0 => vl
  | n + 1 => upd (dg_vl vl g n) n (g n)
theorem dg_vlE (vl g : Nat → Int32) : ∀ n j : Nat, dg_vl vl g n j = if j < n then g j else vl j := by
  intro n
  induction n with
  | zero => intro j; exact (if_neg (Nat.not_lt_zero j)).symm
  | succ n ih =>
    intro j
    show upd (dg_vl vl g n) n (g n) j = _
    by_cases e : j = n
    · subst e
      rw [dg_us, if_pos (by omega)]
    · rw [dg_un e, ih j]
      by_cases h : j < n
      · rw [if_pos h, if_pos (by omega)]
      · rw [if_neg h, if_neg (by omega)]
theorem dg_rvE : ∀ n j : Nat, n ≤ j → dg_rv inp wd ki fi se th rv n j = rv j := by
  intro n
  induction n with
  | zero => intro j _; rfl
  | succ n ih =>
    intro j h
    show upd _ n _ j = _
    rw [dg_un (by omega), ih j (by omega)]
theorem dg_vlR (c : Nat) : dg_vl rv (dg_rv inp wd ki fi se th rv c) c = dg_rv inp wd ki fi se th rv c := by
  funext j
  rw [dg_vlE]
  by_cases h : j < c
  · rw [if_pos h]
  · rw [if_neg h, dg_rvE c j (by omega)]
theorem dg_xwork {P : Int32 → Prop} (hi : i < 20) (hk : dg_OK ki fi se th i) (h : P (dg_val inp wd ki fi se th g i)) : wpX_workOut P (nI c, nI w, inp, wd, ki, fi, se, th, wa, wv, rs, ws, g) (nI i) := by
  have e : (nI i).toNatClampNeg = i := nI_clamp (by omega)
  have t : vp_in (nI i) 20 := vp_in_nI hi (by omega)
  unfold wpX_workOut
  dsimp only
  rw [e]
  rcases hk with k0 | ⟨k0, f0⟩ | ⟨k0, f0, s0⟩ | ⟨k0, f0, s0⟩ | ⟨k0, f0, s0⟩ | ⟨k0, f0⟩ | ⟨k0, f0⟩ | ⟨k0, f0⟩ | ⟨k0, f0, s0⟩ | ⟨k0, f0, s0, t0⟩
  · rw [dg_v0 k0] at h
    refine ⟨t, nm_e ⟨t, nm_e ⟨t, nm_r k0 ?_⟩⟩⟩
    exact br_f (by decide) (br_f (by decide) (br_t rfl (h)))
  · rw [dg_v1 k0] at h
    refine ⟨t, nm_e ⟨t, nm_e ⟨t, nm_r k0 ?_⟩⟩⟩
    exact br_f (by decide) (br_f (by decide) (br_f (by decide) (br_t rfl (⟨f0, h⟩))))
  · rw [dg_v2 k0] at h
    refine ⟨t, nm_e ⟨t, nm_e ⟨t, nm_r k0 ?_⟩⟩⟩
    exact br_f (by decide) (br_f (by decide) (br_f (by decide) (br_f (by decide) (br_t rfl (⟨f0, s0, h⟩)))))
  · rw [dg_v3 k0] at h
    refine ⟨t, nm_e ⟨t, nm_e ⟨t, nm_r k0 ?_⟩⟩⟩
    exact br_f (by decide) (br_f (by decide) (br_f (by decide) (br_f (by decide) (br_f (by decide) (br_t rfl (⟨f0, s0, h⟩))))))
  · rw [dg_v4 k0] at h
    refine ⟨t, nm_e ⟨t, nm_e ⟨t, nm_r k0 ?_⟩⟩⟩
    exact br_f (by decide) (br_f (by decide) (br_f (by decide) (br_f (by decide) (br_f (by decide) (br_f (by decide) (br_t rfl (⟨f0, s0, h⟩)))))))
  · rw [dg_v5 k0] at h
    refine ⟨t, nm_e ⟨t, nm_e ⟨t, nm_r k0 ?_⟩⟩⟩
    exact br_f (by decide) (br_f (by decide) (br_f (by decide) (br_f (by decide) (br_f (by decide) (br_f (by decide) (br_f (by decide) (br_t rfl (⟨f0, h⟩))))))))
  · rw [dg_v6 k0] at h
    refine ⟨t, nm_e ⟨t, nm_e ⟨t, nm_r k0 ?_⟩⟩⟩
    exact br_f (by decide) (br_f (by decide) (br_f (by decide) (br_f (by decide) (br_f (by decide) (br_f (by decide) (br_f (by decide) (br_f (by decide) (br_t rfl (⟨f0, h⟩)))))))))
  · rw [dg_v7 k0] at h
    refine ⟨t, nm_e ⟨t, nm_e ⟨t, nm_r k0 ?_⟩⟩⟩
    exact br_f (by decide) (br_f (by decide) (br_f (by decide) (br_f (by decide) (br_f (by decide) (br_f (by decide) (br_f (by decide) (br_f (by decide) (br_f (by decide) (br_t rfl (⟨f0, dg_in16 _, h⟩))))))))))
  · rw [dg_v8 k0] at h
    refine ⟨t, nm_e ⟨t, nm_e ⟨t, nm_r k0 ?_⟩⟩⟩
    exact br_f (by decide) (br_f (by decide) (br_f (by decide) (br_f (by decide) (br_f (by decide) (br_f (by decide) (br_f (by decide) (br_f (by decide) (br_f (by decide) (br_f (by decide) (br_t rfl (⟨f0, s0, br_c (fun z => by rw [if_pos z] at h; exact h) (fun z => by rw [if_neg z] at h; exact h)⟩)))))))))))
  · rw [dg_v9 k0] at h
    refine ⟨t, nm_e ⟨t, nm_e ⟨t, nm_r k0 ?_⟩⟩⟩
    exact br_f (by decide) (br_f (by decide) (br_f (by decide) (br_f (by decide) (br_f (by decide) (br_f (by decide) (br_f (by decide) (br_f (by decide) (br_f (by decide) (br_f (by decide) (br_f (by decide) (br_t rfl (⟨f0, br_c (fun z => ⟨t, t0, by rw [if_pos z] at h; exact h⟩) (fun z => ⟨s0, by rw [if_neg z] at h; exact h⟩)⟩))))))))))))
theorem dg_neg {P : Int32 → Prop} {x : Int32} (h : P (-x)) : P (0 - x) := by
  rw [Int32.zero_sub]
  exact h
theorem dg_yplain {P : Int32 → Prop} {vl : Nat → Int32} (hi : i < 20) (hk : ki i = 0 ∨ (ki i = 1 ∧ vp_in (fi i) 6) ∨ (ki i = 5 ∧ vp_in (fi i) 20) ∨ (ki i = 6 ∧ vp_in (fi i) 20) ∨ (ki i = 7 ∧ vp_in (fi i) 20)) (h : P (dg_val inp wd ki fi se th g i)) : wpY_plain P (nI c, nI w, ki, fi, se, th, rs, wa, wv, inp, wd, g, ws, vl) (nI i) := by
  have e : (nI i).toNatClampNeg = i := nI_clamp (by omega)
  have t : vp_in (nI i) 20 := vp_in_nI hi (by omega)
  unfold wpY_plain
  dsimp only
  rw [e]
  rcases hk with k0 | ⟨k0, f0⟩ | ⟨k0, f0⟩ | ⟨k0, f0⟩ | ⟨k0, f0⟩
  · rw [dg_v0 k0] at h
    rw [k0]
    exact ⟨t, br_t rfl ⟨t, h⟩⟩
  · rw [dg_v1 k0] at h
    rw [k0]
    exact ⟨t, br_f (by decide) ⟨t, br_t rfl ⟨t, f0, h⟩⟩⟩
  · rw [dg_v5 k0] at h
    rw [k0]
    exact ⟨t, br_f (by decide) ⟨t, br_f (by decide) ⟨t, f0, nm_e ⟨t, br_t rfl (dg_neg h)⟩⟩⟩⟩
  · rw [dg_v6 k0] at h
    rw [k0]
    exact ⟨t, br_f (by decide) ⟨t, br_f (by decide) ⟨t, f0, nm_e ⟨t, br_f (by decide) ⟨t, br_t rfl ⟨t, h⟩⟩⟩⟩⟩⟩
  · rw [dg_v7 k0] at h
    rw [k0]
    exact ⟨t, br_f (by decide) ⟨t, br_f (by decide) ⟨t, f0, nm_e ⟨t, br_f (by decide) ⟨t, br_f (by decide) ⟨dg_in16 _, h⟩⟩⟩⟩⟩⟩
theorem dg_ycomp {P : Int32 → Prop} {vl : Nat → Int32} (hi : i < 20) (hk : (ki i = 2 ∧ vp_in (fi i) 20 ∧ vp_in (se i) 20) ∨ (ki i = 3 ∧ vp_in (fi i) 20 ∧ vp_in (se i) 20) ∨ (ki i = 4 ∧ vp_in (fi i) 20 ∧ vp_in (se i) 20) ∨ (ki i = 8 ∧ vp_in (fi i) 20 ∧ vp_in (se i) 20) ∨ (ki i = 9 ∧ vp_in (fi i) 20 ∧ vp_in (se i) 20 ∧ vp_in (th i) 20)) (h : P (dg_val inp wd ki fi se th g i)) : wpY_compound P (nI c, nI w, ki, fi, se, th, rs, wa, wv, inp, wd, g, ws, vl) (nI i) := by
  have e : (nI i).toNatClampNeg = i := nI_clamp (by omega)
  have t : vp_in (nI i) 20 := vp_in_nI hi (by omega)
  unfold wpY_compound
  dsimp only
  rw [e]
  rcases hk with ⟨k0, f0, s0⟩ | ⟨k0, f0, s0⟩ | ⟨k0, f0, s0⟩ | ⟨k0, f0, s0⟩ | ⟨k0, f0, s0, t0⟩
  · rw [dg_v2 k0] at h
    rw [k0]
    exact ⟨t, f0, nm_e ⟨t, s0, nm_e ⟨t, br_t rfl h⟩⟩⟩
  · rw [dg_v3 k0] at h
    rw [k0]
    exact ⟨t, f0, nm_e ⟨t, s0, nm_e ⟨t, br_f (by decide) ⟨t, br_t rfl h⟩⟩⟩⟩
  · rw [dg_v4 k0] at h
    rw [k0]
    exact ⟨t, f0, nm_e ⟨t, s0, nm_e ⟨t, br_f (by decide) ⟨t, br_f (by decide) ⟨t, br_t rfl h⟩⟩⟩⟩⟩
  · rw [dg_v8 k0] at h
    rw [k0]
    exact ⟨t, f0, nm_e ⟨t, s0, nm_e ⟨t, br_f (by decide) ⟨t, br_f (by decide) ⟨t, br_f (by decide) ⟨t, br_t rfl (br_c (fun z => by rw [if_pos z] at h; exact h) (fun z => by rw [if_neg z] at h; exact h))⟩⟩⟩⟩⟩⟩
  · rw [dg_v9 k0] at h
    rw [k0]
    exact ⟨t, f0, nm_e ⟨t, s0, nm_e ⟨t, br_f (by decide) ⟨t, br_f (by decide) ⟨t, br_f (by decide) ⟨t, br_f (by decide) (br_c (fun z => ⟨t, t0, by rw [if_pos z] at h; exact h⟩) (fun z => by rw [if_neg z] at h; exact h))⟩⟩⟩⟩⟩⟩
end
