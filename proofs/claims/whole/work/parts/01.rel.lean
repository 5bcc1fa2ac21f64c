section
/-- the parts of node j are such as its kind asks for -/
def dg_OK (ki fi se th : Nat → Int32) (j : Nat) : Prop :=
  ki j = 0 ∨ (ki j = 1 ∧ vp_in (fi j) 6)
  ∨ (ki j = 2 ∧ vp_in (fi j) 20 ∧ vp_in (se j) 20)
  ∨ (ki j = 3 ∧ vp_in (fi j) 20 ∧ vp_in (se j) 20)
  ∨ (ki j = 4 ∧ vp_in (fi j) 20 ∧ vp_in (se j) 20)
  ∨ (ki j = 5 ∧ vp_in (fi j) 20)
  ∨ (ki j = 6 ∧ vp_in (fi j) 20)
  ∨ (ki j = 7 ∧ vp_in (fi j) 20)
  ∨ (ki j = 8 ∧ vp_in (fi j) 20 ∧ vp_in (se j) 20)
  ∨ (ki j = 9 ∧ vp_in (fi j) 20 ∧ vp_in (se j) 20 ∧ vp_in (th j) 20)
/-- the two states hold the same; the reference's now and values are both the class's runValues -/
def i_Rel (_ : Nat) (u : SX) (v : SY) : Prop :=
  ∃ (c w : Nat) (inp wd ki fi se th wa wv rs ws rv : Nat → Int32),
    c ≤ 20 ∧ w ≤ 4 ∧ (∀ j, j < c → dg_OK ki fi se th j) ∧ (∀ j, j < w → vp_in (wa j) 20 ∧ vp_in (wv j) 20)
    ∧ u = (nI c, nI w, inp, wd, ki, fi, se, th, wa, wv, rs, ws, rv)
    ∧ v = (nI c, nI w, ki, fi, se, th, rs, wa, wv, inp, wd, rv, ws, rv)
theorem i_up {k : Nat} {u : SX} {v : SY} (h : i_Rel k u v) : i_Rel (k + 4) u v := h
theorem i_vc0 : wpX_init (fun u => wpY_init (fun v => i_Rel 0 u v)) :=
  ⟨0, 0, fun _ => 0, fun _ => 0, fun _ => 0, fun _ => 0, fun _ => 0, fun _ => 0, fun _ => 0, fun _ => 0, fun _ => 0, fun _ => 0, fun _ => 0, by omega, by omega, fun j h => absurd h (Nat.not_lt_zero j), fun j h => absurd h (Nat.not_lt_zero j), rfl, rfl⟩
theorem dg_us {f : Nat → Int32} {k : Nat} {x : Int32} : upd f k x k = x := if_pos rfl
theorem dg_un {f : Nat → Int32} {k j : Nat} {x : Int32} (h : j ≠ k) : upd f k x j = f j := if_neg h
theorem dg_in16 (y : Int32) : vp_in (y &&& 15) 16 := by
  have h : (y &&& 15).toBitVec.toNat < 16 := by
    rw [Int32.toBitVec_and, BitVec.toNat_and]
    exact Nat.lt_of_le_of_lt Nat.and_le_right (by decide)
  have e : (y &&& 15).toInt = (y &&& 15).toBitVec.toInt := rfl
  rw [vp_in_iff, e, BitVec.toInt_eq_toNat_of_lt (by omega)]
  omega
/-- n is one of the c nodes -/
def dg_nod (c : Nat) (n : Int32) : Prop := ∃ j : Nat, j < c ∧ n = nI j
theorem dg_no {c : Nat} {n : Int32} (hc : c ≤ 20) (h : ¬ dg_nod c n) : n < 0 ∨ nI c ≤ n := by
  by_cases h0 : n < 0
  · exact Or.inl h0
  · obtain ⟨j, hj, rfl⟩ := nI_of h0
    refine Or.inr (nI_le ?_ hj)
    by_cases h2 : j < c
    · exact absurd ⟨j, h2, rfl⟩ h
    · omega
theorem dg_nin {c : Nat} {n : Int32} (hc : c ≤ 20) (h : dg_nod c n) : vp_in n 20 := by
  obtain ⟨j, hj, rfl⟩ := h
  exact vp_in_nI (by omega) (by omega)
theorem dg_20 : nI 20 = 20 := by decide +kernel
theorem dg_4 : nI 4 = 4 := by decide +kernel
variable {c w : Nat} {inp wd ki fi se th wa wv rs ws rv : Nat → Int32}
theorem dg_x1 {P : Int32 → Prop} {n : Int32} (hc : c ≤ 20) (hn : dg_nod c n) (h : P 1) : wpX_isNode P (nI c, nI w, inp, wd, ki, fi, se, th, wa, wv, rs, ws, rv) n := by
  obtain ⟨j, hj, rfl⟩ := hn
  exact br_f (nI_pos (by omega)) (br_f (nI_ge hj (by omega)) h)
theorem dg_x0 {P : Int32 → Prop} {n : Int32} (hc : c ≤ 20) (hn : ¬ dg_nod c n) (h : P 0) : wpX_isNode P (nI c, nI w, inp, wd, ki, fi, se, th, wa, wv, rs, ws, rv) n := by
  by_cases h0 : n < 0
  · exact br_t h0 h
  · exact br_f h0 (br_t ((dg_no hc hn).resolve_left h0) h)
theorem dg_y1 {P : Int32 → Prop} {n : Int32} (hc : c ≤ 20) (hn : dg_nod c n) (h : P 1) : wpY_isNode P (nI c, nI w, ki, fi, se, th, rs, wa, wv, inp, wd, rv, ws, rv) n := by
  obtain ⟨j, hj, rfl⟩ := hn
  exact br_f (nI_pos (by omega)) (br_f (nI_ge hj (by omega)) h)
theorem dg_y0 {P : Int32 → Prop} {n : Int32} (hc : c ≤ 20) (hn : ¬ dg_nod c n) (h : P 0) : wpY_isNode P (nI c, nI w, ki, fi, se, th, rs, wa, wv, inp, wd, rv, ws, rv) n := by
  by_cases h0 : n < 0
  · exact br_t h0 h
  · exact br_f h0 (br_t ((dg_no hc hn).resolve_left h0) h)
theorem dg_xapp {P : Int32 → SX → Prop} {kd a b d : Int32} (hc : c < 20) (h : P (nI c) (nI (c + 1), nI w, inp, wd, upd ki c kd, upd fi c a, upd se c b, upd th c d, wa, wv, upd rs c (vp_nar .boolean 0), upd ws c (vp_nar .boolean 0), rv)) : wpX_append P (nI c, nI w, inp, wd, ki, fi, se, th, wa, wv, rs, ws, rv) kd a b d := by
  have e : (nI c).toNatClampNeg = c := nI_clamp (by omega)
  have i : vp_in (nI c) 20 := vp_in_nI hc (by omega)
  have l : nI c < 20 := by rw [← dg_20]; exact nI_lt hc (by omega)
  unfold wpX_append
  dsimp only
  rw [e, nI_1]
  exact br_t l ⟨i, nm_e ⟨i, nm_e ⟨i, nm_e ⟨i, nm_e ⟨i, nm_e ⟨i, nm_e (nm_e h)⟩⟩⟩⟩⟩⟩
theorem dg_xful {P : Int32 → SX → Prop} {kd a b d : Int32} (hc : ¬ c < 20) (hc' : c ≤ 20) (h : P (-2) (nI c, nI w, inp, wd, ki, fi, se, th, wa, wv, rs, ws, rv)) : wpX_append P (nI c, nI w, inp, wd, ki, fi, se, th, wa, wv, rs, ws, rv) kd a b d := by
  have l : ¬ nI c < 20 := by rw [← dg_20]; exact nI_nlt (by omega) (by omega)
  exact br_f l h
theorem dg_yapp {P : Int32 → SY → Prop} {kd a b d : Int32} (hc : c < 20) (h : P (nI c) (nI (c + 1), nI w, upd ki c kd, upd fi c a, upd se c b, upd th c d, upd rs c (vp_nar .boolean 0), wa, wv, inp, wd, rv, upd ws c (vp_nar .boolean 0), rv)) : wpY_append P (nI c, nI w, ki, fi, se, th, rs, wa, wv, inp, wd, rv, ws, rv) kd a b d := by
  have e : (nI c).toNatClampNeg = c := nI_clamp (by omega)
  have i : vp_in (nI c) 20 := vp_in_nI hc (by omega)
  have l : ¬ nI c = 20 := by rw [← dg_20, nI_eq (by omega) (by omega)]; omega
  unfold wpY_append
  dsimp only
  rw [e, nI_1]
  refine br_f l ⟨i, nm_e ⟨i, nm_e ⟨i, nm_e ⟨i, nm_e ⟨i, nm_e ⟨i, nm_e (nm_e ?_)⟩⟩⟩⟩⟩⟩
  rw [nI_pred]
  exact h
theorem dg_yful {P : Int32 → SY → Prop} {kd a b d : Int32} (hc : ¬ c < 20) (hc' : c ≤ 20) (h : P (-2) (nI c, nI w, ki, fi, se, th, rs, wa, wv, inp, wd, rv, ws, rv)) : wpY_append P (nI c, nI w, ki, fi, se, th, rs, wa, wv, inp, wd, rv, ws, rv) kd a b d := by
  have l : nI c = 20 := by rw [← dg_20, nI_eq (by omega) (by omega)]; omega
  exact br_t l h
theorem dg_okU {kd a b d : Int32} (hO : ∀ j, j < c → dg_OK ki fi se th j) (h : dg_OK (fun _ => kd) (fun _ => a) (fun _ => b) (fun _ => d) c) : ∀ j, j < c + 1 → dg_OK (upd ki c kd) (upd fi c a) (upd se c b) (upd th c d) j := by
  intro j hj
  by_cases e : j = c
  · subst e
    unfold dg_OK
    rw [dg_us, dg_us, dg_us, dg_us]
    exact h
  · unfold dg_OK
    rw [dg_un e, dg_un e, dg_un e, dg_un e]
    exact hO j (by omega)
theorem dg_relA {k : Nat} {kd a b d : Int32} (hc : c < 20) (hw : w ≤ 4) (hO : ∀ j, j < c → dg_OK ki fi se th j) (hW : ∀ j, j < w → vp_in (wa j) 20 ∧ vp_in (wv j) 20) (h : dg_OK (fun _ => kd) (fun _ => a) (fun _ => b) (fun _ => d) c) : i_Rel k (nI (c + 1), nI w, inp, wd, upd ki c kd, upd fi c a, upd se c b, upd th c d, wa, wv, upd rs c (vp_nar .boolean 0), upd ws c (vp_nar .boolean 0), rv) (nI (c + 1), nI w, upd ki c kd, upd fi c a, upd se c b, upd th c d, upd rs c (vp_nar .boolean 0), wa, wv, inp, wd, rv, upd ws c (vp_nar .boolean 0), rv) :=
  ⟨c + 1, w, inp, wd, upd ki c kd, upd fi c a, upd se c b, upd th c d, wa, wv, upd rs c (vp_nar .boolean 0), upd ws c (vp_nar .boolean 0), rv, by omega, hw, dg_okU hO h, hW, rfl, rfl⟩
theorem dg_rel {k : Nat} (hc : c ≤ 20) (hw : w ≤ 4) (hO : ∀ j, j < c → dg_OK ki fi se th j) (hW : ∀ j, j < w → vp_in (wa j) 20 ∧ vp_in (wv j) 20) : i_Rel k (nI c, nI w, inp, wd, ki, fi, se, th, wa, wv, rs, ws, rv) (nI c, nI w, ki, fi, se, th, rs, wa, wv, inp, wd, rv, ws, rv) :=
  ⟨c, w, inp, wd, ki, fi, se, th, wa, wv, rs, ws, rv, hc, hw, hO, hW, rfl, rfl⟩
end
