section
section
/-- the parts of node j are such as its kind asks for -/
def dg_OK (ki fi se th : Nat → Int32) (j : Nat) : Prop :=
  ki j = 0 ∨ (ki j = 1 ∧ vp_in (fi j) 6)
  ∨ (ki j = 2 ∧ vp_in (fi j) 20 ∧ vp_in (se j) 20)
  ∨ (ki j = 3 ∧ vp_in (fi j) 20 ∧ vp_in (se j) 20)
  ∨ (ki j = 4 ∧ vp_in (fi j) 20 ∧ vp_in (se j) 20)
  ∨ (ki j = 5 ∧ vp_in (fi j) 20)
  ∨ (ki j = 6 ∧ vp_in (fi j) 20)
  ∨ (ki j = 7 ∧ vp_in (fi j) 20)
  ∨ (ki j = 8 ∧ vp_in (fi j) 20 ∧ vp_in (se j) 20)
  ∨ (ki j = 9 ∧ vp_in (fi j) 20 ∧ vp_in (se j) 20 ∧ vp_in (th j) 20)
/-- the two states hold the same; the reference's now and values are both the class's runValues -/
def i_Rel (_ : Nat) (u : SX) (v : SY) : Prop :=
  ∃ (c w : Nat) (inp wd ki fi se th wa wv rs ws rv : Nat → Int32),
    c ≤ 20 ∧ w ≤ 4 ∧ (∀ j, j < c → dg_OK ki fi se th j) ∧ (∀ j, j < w → vp_in (wa j) 20 ∧ vp_in (wv j) 20)
    ∧ u = (nI c, nI w, inp, wd, ki, fi, se, th, wa, wv, rs, ws, rv)
    ∧ v = (nI c, nI w, ki, fi, se, th, rs, wa, wv, inp, wd, rv, ws, rv)
theorem i_up {k : Nat} {u : SX} {v : SY} (h : i_Rel k u v) : i_Rel (k + 4) u v := h
theorem i_vc0 : wpX_init (fun u => wpY_init (fun v => i_Rel 0 u v)) :=
  ⟨0, 0, fun _ => 0, fun _ => 0, fun _ => 0, fun _ => 0, fun _ => 0, fun _ => 0, fun _ => 0, fun _ => 0, fun _ => 0, fun _ => 0, fun _ => 0, by omega, by omega, fun j h => absurd h (Nat.not_lt_zero j), fun j h => absurd h (Nat.not_lt_zero j), rfl, rfl⟩
theorem dg_us {f : Nat → Int32} {k : Nat} {x : Int32} : upd f k x k = x := if_pos rfl
theorem dg_un {f : Nat → Int32} {k j : Nat} {x : Int32} (h : j ≠ k) : upd f k x j = f j := if_neg h
theorem dg_in16 (y : Int32) : vp_in (y &&& 15) 16 := by
  have h : (y &&& 15).toBitVec.toNat < 16 := by
    rw [Int32.toBitVec_and, BitVec.toNat_and]
    exact Nat.lt_of_le_of_lt Nat.and_le_right (by decide)
  have e : (y &&& 15).toInt = (y &&& 15).toBitVec.toInt := rfl
  rw [vp_in_iff, e, BitVec.toInt_eq_toNat_of_lt (by omega)]
  omega
/-- n is one of the c nodes -/
def dg_nod (c : Nat) (n : Int32) : Prop := ∃ j : Nat, j < c ∧ n = nI j
theorem dg_no {c : Nat} {n : Int32} (hc : c ≤ 20) (h : ¬ dg_nod c n) : n < 0 ∨ nI c ≤ n := by
  by_cases h0 : n < 0
  · exact Or.inl h0
  · obtain ⟨j, hj, rfl⟩ := nI_of h0
    refine Or.inr (nI_le ?_ hj)
    by_cases h2 : j < c
    · exact absurd ⟨j, h2, rfl⟩ h
    · omega
theorem dg_nin {c : Nat} {n : Int32} (hc : c ≤ 20) (h : dg_nod c n) : vp_in n 20 := by
  obtain ⟨j, hj, rfl⟩ := h
  exact vp_in_nI (by omega) (by omega)
theorem dg_20 : nI 20 = 20 := by decide +kernel
theorem dg_4 : nI 4 = 4 := by decide +kernel
variable {c w : Nat} {inp wd ki fi se th wa wv rs ws rv : Nat → Int32}
theorem dg_x1 {P : Int32 → Prop} {n : Int32} (hc : c ≤ 20) (hn : dg_nod c n) (h : P 1) : wpX_isNode P (nI c, nI w, inp, wd, ki, fi, se, th, wa, wv, rs, ws, rv) n := by
  obtain ⟨j, hj, rfl⟩ := hn
  exact br_f (nI_pos (by omega)) (br_f (nI_ge hj (by omega)) h)
theorem dg_x0 {P : Int32 → Prop} {n : Int32} (hc : c ≤ 20) (hn : ¬ dg_nod c n) (h : P 0) : wpX_isNode P (nI c, nI w, inp, wd, ki, fi, se, th, wa, wv, rs, ws, rv) n := by
  by_cases h0 : n < 0
  · exact br_t h0 h
  · exact br_f h0 (br_t ((dg_no hc hn).resolve_left h0) h)
theorem dg_y1 {P : Int32 → Prop} {n : Int32} (hc : c ≤ 20) (hn : dg_nod c n) (h : P 1) : wpY_isNode P (nI c, nI w, ki, fi, se, th, rs, wa, wv, inp, wd, rv, ws, rv) n := by
  obtain ⟨j, hj, rfl⟩ := hn
  exact br_f (nI_pos (by omega)) (br_f (nI_ge hj (by omega)) h)
theorem dg_y0 {P : Int32 → Prop} {n : Int32} (hc : c ≤ 20) (hn : ¬ dg_nod c n) (h : P 0) : wpY_isNode P (nI c, nI w, ki, fi, se, th, rs, wa, wv, inp, wd, rv, ws, rv) n := by
  by_cases h0 : n < 0
  · exact br_t h0 h
  · exact br_f h0 (br_t ((dg_no hc hn).resolve_left h0) h)
theorem dg_xapp {P : Int32 → SX → Prop} {kd a b d : Int32} (hc : c < 20) (h : P (nI c) (nI (c + 1), nI w, inp, wd, upd ki c kd, upd fi c a, upd se c b, upd th c d, wa, wv, upd rs c (vp_nar .boolean 0), upd ws c (vp_nar .boolean 0), rv)) : wpX_append P (nI c, nI w, inp, wd, ki, fi, se, th, wa, wv, rs, ws, rv) kd a b d := by
  have e : (nI c).toNatClampNeg = c := nI_clamp (by omega)
  have i : vp_in (nI c) 20 := vp_in_nI hc (by omega)
  have l : nI c < 20 := by rw [← dg_20]; exact nI_lt hc (by omega)
  unfold wpX_append
  dsimp only
  rw [e, nI_1]
  exact br_t l ⟨i, nm_e ⟨i, nm_e ⟨i, nm_e ⟨i, nm_e ⟨i, nm_e ⟨i, nm_e (nm_e h)⟩⟩⟩⟩⟩⟩
theorem dg_xful {P : Int32 → SX → Prop} {kd a b d : Int32} (hc : ¬ c < 20) (hc' : c ≤ 20) (h : P (-2) (nI c, nI w, inp, wd, ki, fi, se, th, wa, wv, rs, ws, rv)) : wpX_append P (nI c, nI w, inp, wd, ki, fi, se, th, wa, wv, rs, ws, rv) kd a b d := by
  have l : ¬ nI c < 20 := by rw [← dg_20]; exact nI_nlt (by omega) (by omega)
  exact br_f l h
theorem dg_yapp {P : Int32 → SY → Prop} {kd a b d : Int32} (hc : c < 20) (h : P (nI c) (nI (c + 1), nI w, upd ki c kd, upd fi c a, upd se c b, upd th c d, upd rs c (vp_nar .boolean 0), wa, wv, inp, wd, rv, upd ws c (vp_nar .boolean 0), rv)) : wpY_append P (nI c, nI w, ki, fi, se, th, rs, wa, wv, inp, wd, rv, ws, rv) kd a b d := by
  have e : (nI c).toNatClampNeg = c := nI_clamp (by omega)
  have i : vp_in (nI c) 20 := vp_in_nI hc (by omega)
  have l : ¬ nI c = 20 := by rw [← dg_20, nI_eq (by omega) (by omega)]; omega
  unfold wpY_append
  dsimp only
  rw [e, nI_1]
  refine br_f l ⟨i, nm_e ⟨i, nm_e ⟨i, nm_e ⟨i, nm_e ⟨i, nm_e ⟨i, nm_e (nm_e ?_)⟩⟩⟩⟩⟩⟩
  rw [nI_pred]
  exact h
theorem dg_yful {P : Int32 → SY → Prop} {kd a b d : Int32} (hc : ¬ c < 20) (hc' : c ≤ 20) (h : P (-2) (nI c, nI w, ki, fi, se, th, rs, wa, wv, inp, wd, rv, ws, rv)) : wpY_append P (nI c, nI w, ki, fi, se, th, rs, wa, wv, inp, wd, rv, ws, rv) kd a b d := by
  have l : nI c = 20 := by rw [← dg_20, nI_eq (by omega) (by omega)]; omega
  exact br_t l h
theorem dg_okU {kd a b d : Int32} (hO : ∀ j, j < c → dg_OK ki fi se th j) (h : dg_OK (fun _ => kd) (fun _ => a) (fun _ => b) (fun _ => d) c) : ∀ j, j < c + 1 → dg_OK (upd ki c kd) (upd fi c a) (upd se c b) (upd th c d) j := by
  intro j hj
  by_cases e : j = c
  · subst e
    unfold dg_OK
    rw [dg_us, dg_us, dg_us, dg_us]
    exact h
  · unfold dg_OK
    rw [dg_un e, dg_un e, dg_un e, dg_un e]
    exact hO j (by omega)
theorem dg_relA {k : Nat} {kd a b d : Int32} (hc : c < 20) (hw : w ≤ 4) (hO : ∀ j, j < c → dg_OK ki fi se th j) (hW : ∀ j, j < w → vp_in (wa j) 20 ∧ vp_in (wv j) 20) (h : dg_OK (fun _ => kd) (fun _ => a) (fun _ => b) (fun _ => d) c) : i_Rel k (nI (c + 1), nI w, inp, wd, upd ki c kd, upd fi c a, upd se c b, upd th c d, wa, wv, upd rs c (vp_nar .boolean 0), upd ws c (vp_nar .boolean 0), rv) (nI (c + 1), nI w, upd ki c kd, upd fi c a, upd se c b, upd th c d, upd rs c (vp_nar .boolean 0), wa, wv, inp, wd, rv, upd ws c (vp_nar .boolean 0), rv) :=
  ⟨c + 1, w, inp, wd, upd ki c kd, upd fi c a, upd se c b, upd th c d, wa, wv, upd rs c (vp_nar .boolean 0), upd ws c (vp_nar .boolean 0), rv, by omega, hw, dg_okU hO h, hW, rfl, rfl⟩
theorem dg_rel {k : Nat} (hc : c ≤ 20) (hw : w ≤ 4) (hO : ∀ j, j < c → dg_OK ki fi se th j) (hW : ∀ j, j < w → vp_in (wa j) 20 ∧ vp_in (wv j) 20) : i_Rel k (nI c, nI w, inp, wd, ki, fi, se, th, wa, wv, rs, ws, rv) (nI c, nI w, ki, fi, se, th, rs, wa, wv, inp, wd, rv, ws, rv) :=
  ⟨c, w, inp, wd, ki, fi, se, th, wa, wv, rs, ws, rv, hc, hw, hO, hW, rfl, rfl⟩
end
end
section
section
variable {c w : Nat} {inp wd ki fi se th wa wv rs ws rv : Nat → Int32}
theorem dg_xone {P : Int32 → SX → Prop} {kd a b : Int32} (hc : c ≤ 20) (hb : ¬ dg_nod c a → P (-1) (nI c, nI w, inp, wd, ki, fi, se, th, wa, wv, rs, ws, rv)) (hf : dg_nod c a → ¬ c < 20 → P (-2) (nI c, nI w, inp, wd, ki, fi, se, th, wa, wv, rs, ws, rv)) (ho : dg_nod c a → c < 20 → P (nI c) (nI (c + 1), nI w, inp, wd, upd ki c kd, upd fi c a, upd se c b, upd th c 0, wa, wv, upd rs c (vp_nar .boolean 0), upd ws c (vp_nar .boolean 0), rv)) : wpX_appendOnOne P (nI c, nI w, inp, wd, ki, fi, se, th, wa, wv, rs, ws, rv) kd a b := by
  unfold wpX_appendOnOne
  dsimp only
  by_cases hn : dg_nod c a
  · refine dg_x1 hc hn (br_f (by decide) ?_)
    by_cases h2 : c < 20
    · exact dg_xapp h2 (ho hn h2)
    · exact dg_xful h2 hc (hf hn h2)
  · exact dg_x0 hc hn (br_t rfl (hb hn))
theorem dg_xtwo {P : Int32 → SX → Prop} {kd a b : Int32} (hc : c ≤ 20) (hb : ¬ (dg_nod c a ∧ dg_nod c b) → P (-1) (nI c, nI w, inp, wd, ki, fi, se, th, wa, wv, rs, ws, rv)) (hf : dg_nod c a ∧ dg_nod c b → ¬ c < 20 → P (-2) (nI c, nI w, inp, wd, ki, fi, se, th, wa, wv, rs, ws, rv)) (ho : dg_nod c a ∧ dg_nod c b → c < 20 → P (nI c) (nI (c + 1), nI w, inp, wd, upd ki c kd, upd fi c a, upd se c b, upd th c 0, wa, wv, upd rs c (vp_nar .boolean 0), upd ws c (vp_nar .boolean 0), rv)) : wpX_appendOnTwo P (nI c, nI w, inp, wd, ki, fi, se, th, wa, wv, rs, ws, rv) kd a b := by
  unfold wpX_appendOnTwo
  dsimp only
  by_cases hn : dg_nod c a
  · refine dg_x1 hc hn (br_f (by decide) ?_)
    by_cases hm : dg_nod c b
    · refine dg_x1 hc hm (br_f (by decide) ?_)
      by_cases h2 : c < 20
      · exact dg_xapp h2 (ho ⟨hn, hm⟩ h2)
      · exact dg_xful h2 hc (hf ⟨hn, hm⟩ h2)
    · exact dg_x0 hc hm (br_t rfl (hb fun z => hm z.2))
  · exact dg_x0 hc hn (br_t rfl (hb fun z => hn z.1))
theorem dg_ytwo {P : Int32 → SY → Prop} {kd a b : Int32} (hc : c ≤ 20) (hb : ¬ (dg_nod c a ∧ dg_nod c b) → P (-1) (nI c, nI w, ki, fi, se, th, rs, wa, wv, inp, wd, rv, ws, rv)) (hf : dg_nod c a ∧ dg_nod c b → ¬ c < 20 → P (-2) (nI c, nI w, ki, fi, se, th, rs, wa, wv, inp, wd, rv, ws, rv)) (ho : dg_nod c a ∧ dg_nod c b → c < 20 → P (nI c) (nI (c + 1), nI w, upd ki c kd, upd fi c a, upd se c b, upd th c 0, upd rs c (vp_nar .boolean 0), wa, wv, inp, wd, rv, upd ws c (vp_nar .boolean 0), rv)) : wpY_appendPair P (nI c, nI w, ki, fi, se, th, rs, wa, wv, inp, wd, rv, ws, rv) kd a b := by
  unfold wpY_appendPair
  dsimp only
  by_cases hn : dg_nod c a
  · refine dg_y1 hc hn (br_f (by decide) ?_)
    by_cases hm : dg_nod c b
    · refine dg_y1 hc hm (br_f (by decide) ?_)
      by_cases h2 : c < 20
      · exact dg_yapp h2 (ho ⟨hn, hm⟩ h2)
      · exact dg_yful h2 hc (hf ⟨hn, hm⟩ h2)
    · exact dg_y0 hc hm (br_t rfl (hb fun z => hm z.2))
  · exact dg_y0 hc hn (br_t rfl (hb fun z => hn z.1))
theorem i_vc_number {k : Nat} {u : SX} {v : SY} (I : i_Rel k u v) (hk : k + 4 ≤ 2048) (v1 : Int32) : wpX_number (fun r u' => wpY_number (fun r' v' => r' = r ∧ i_Rel (k + 4) u' v') v v1) u v1 := by
  obtain ⟨c, w, inp, wd, ki, fi, se, th, wa, wv, rs, ws, rv, hc, hw, hO, hW, rfl, rfl⟩ := I
  unfold wpX_number wpY_number
  dsimp only
  by_cases h2 : c < 20
  · exact dg_xapp h2 (dg_yapp h2 ⟨rfl, dg_relA h2 hw hO hW (Or.inl rfl)⟩)
  · exact dg_xful h2 hc (dg_yful h2 hc ⟨rfl, dg_rel hc hw hO hW⟩)
theorem i_vc_add {k : Nat} {u : SX} {v : SY} (I : i_Rel k u v) (hk : k + 4 ≤ 2048) (v1 : Int32) (v2 : Int32) : wpX_add (fun r u' => wpY_add (fun r' v' => r' = r ∧ i_Rel (k + 4) u' v') v v1 v2) u v1 v2 := by
  obtain ⟨c, w, inp, wd, ki, fi, se, th, wa, wv, rs, ws, rv, hc, hw, hO, hW, rfl, rfl⟩ := I
  unfold wpX_add wpY_add
  dsimp only
  have no : ∀ {A B : Prop}, A → ¬ A → B := fun a b => absurd a b
  refine dg_xtwo hc (fun hn => ?_) (fun hn h2 => ?_) (fun hn h2 => ?_)
  · exact dg_ytwo hc (fun _ => ⟨rfl, dg_rel hc hw hO hW⟩) (fun z _ => absurd z hn) (fun z _ => absurd z hn)
  · exact dg_ytwo hc (fun z => absurd hn z) (fun _ _ => ⟨rfl, dg_rel hc hw hO hW⟩) (fun _ z => absurd z h2)
  · exact dg_ytwo hc (fun z => absurd hn z) (fun _ z => absurd h2 z) (fun _ _ => ⟨rfl, dg_relA h2 hw hO hW (Or.inr (Or.inr (Or.inl (⟨rfl, dg_nin hc hn.1, dg_nin hc hn.2⟩))))⟩)
theorem i_vc_sub {k : Nat} {u : SX} {v : SY} (I : i_Rel k u v) (hk : k + 4 ≤ 2048) (v1 : Int32) (v2 : Int32) : wpX_sub (fun r u' => wpY_sub (fun r' v' => r' = r ∧ i_Rel (k + 4) u' v') v v1 v2) u v1 v2 := by
  obtain ⟨c, w, inp, wd, ki, fi, se, th, wa, wv, rs, ws, rv, hc, hw, hO, hW, rfl, rfl⟩ := I
  unfold wpX_sub wpY_sub
  dsimp only
  have no : ∀ {A B : Prop}, A → ¬ A → B := fun a b => absurd a b
  refine dg_xtwo hc (fun hn => ?_) (fun hn h2 => ?_) (fun hn h2 => ?_)
  · exact dg_ytwo hc (fun _ => ⟨rfl, dg_rel hc hw hO hW⟩) (fun z _ => absurd z hn) (fun z _ => absurd z hn)
  · exact dg_ytwo hc (fun z => absurd hn z) (fun _ _ => ⟨rfl, dg_rel hc hw hO hW⟩) (fun _ z => absurd z h2)
  · exact dg_ytwo hc (fun z => absurd hn z) (fun _ z => absurd h2 z) (fun _ _ => ⟨rfl, dg_relA h2 hw hO hW (Or.inr (Or.inr (Or.inr (Or.inl (⟨rfl, dg_nin hc hn.1, dg_nin hc hn.2⟩)))))⟩)
theorem i_vc_mul {k : Nat} {u : SX} {v : SY} (I : i_Rel k u v) (hk : k + 4 ≤ 2048) (v1 : Int32) (v2 : Int32) : wpX_mul (fun r u' => wpY_mul (fun r' v' => r' = r ∧ i_Rel (k + 4) u' v') v v1 v2) u v1 v2 := by
  obtain ⟨c, w, inp, wd, ki, fi, se, th, wa, wv, rs, ws, rv, hc, hw, hO, hW, rfl, rfl⟩ := I
  unfold wpX_mul wpY_mul
  dsimp only
  have no : ∀ {A B : Prop}, A → ¬ A → B := fun a b => absurd a b
  refine dg_xtwo hc (fun hn => ?_) (fun hn h2 => ?_) (fun hn h2 => ?_)
  · exact dg_ytwo hc (fun _ => ⟨rfl, dg_rel hc hw hO hW⟩) (fun z _ => absurd z hn) (fun z _ => absurd z hn)
  · exact dg_ytwo hc (fun z => absurd hn z) (fun _ _ => ⟨rfl, dg_rel hc hw hO hW⟩) (fun _ z => absurd z h2)
  · exact dg_ytwo hc (fun z => absurd hn z) (fun _ z => absurd h2 z) (fun _ _ => ⟨rfl, dg_relA h2 hw hO hW (Or.inr (Or.inr (Or.inr (Or.inr (Or.inl (⟨rfl, dg_nin hc hn.1, dg_nin hc hn.2⟩))))))⟩)
theorem i_vc_less {k : Nat} {u : SX} {v : SY} (I : i_Rel k u v) (hk : k + 4 ≤ 2048) (v1 : Int32) (v2 : Int32) : wpX_less (fun r u' => wpY_less (fun r' v' => r' = r ∧ i_Rel (k + 4) u' v') v v1 v2) u v1 v2 := by
  obtain ⟨c, w, inp, wd, ki, fi, se, th, wa, wv, rs, ws, rv, hc, hw, hO, hW, rfl, rfl⟩ := I
  unfold wpX_less wpY_less
  dsimp only
  have no : ∀ {A B : Prop}, A → ¬ A → B := fun a b => absurd a b
  refine dg_xtwo hc (fun hn => ?_) (fun hn h2 => ?_) (fun hn h2 => ?_)
  · exact dg_ytwo hc (fun _ => ⟨rfl, dg_rel hc hw hO hW⟩) (fun z _ => absurd z hn) (fun z _ => absurd z hn)
  · exact dg_ytwo hc (fun z => absurd hn z) (fun _ _ => ⟨rfl, dg_rel hc hw hO hW⟩) (fun _ z => absurd z h2)
  · exact dg_ytwo hc (fun z => absurd hn z) (fun _ z => absurd h2 z) (fun _ _ => ⟨rfl, dg_relA h2 hw hO hW (Or.inr (Or.inr (Or.inr (Or.inr (Or.inr (Or.inr (Or.inr (Or.inr (Or.inl (⟨rfl, dg_nin hc hn.1, dg_nin hc hn.2⟩))))))))))⟩)
theorem i_vc_neg {k : Nat} {u : SX} {v : SY} (I : i_Rel k u v) (hk : k + 4 ≤ 2048) (v1 : Int32) : wpX_neg (fun r u' => wpY_neg (fun r' v' => r' = r ∧ i_Rel (k + 4) u' v') v v1) u v1 := by
  obtain ⟨c, w, inp, wd, ki, fi, se, th, wa, wv, rs, ws, rv, hc, hw, hO, hW, rfl, rfl⟩ := I
  unfold wpX_neg wpY_neg
  dsimp only
  refine dg_xone hc (fun hn => ?_) (fun hn h2 => ?_) (fun hn h2 => ?_)
  · exact dg_y0 hc hn (br_t rfl ⟨rfl, dg_rel hc hw hO hW⟩)
  · exact dg_y1 hc hn (br_f (by decide) (dg_yful h2 hc ⟨rfl, dg_rel hc hw hO hW⟩))
  · exact dg_y1 hc hn (br_f (by decide) (dg_yapp h2 ⟨rfl, dg_relA h2 hw hO hW (Or.inr (Or.inr (Or.inr (Or.inr (Or.inr (Or.inl (⟨rfl, dg_nin hc hn⟩)))))))⟩))
theorem i_vc_fetch {k : Nat} {u : SX} {v : SY} (I : i_Rel k u v) (hk : k + 4 ≤ 2048) (v1 : Int32) : wpX_fetch (fun r u' => wpY_fetch (fun r' v' => r' = r ∧ i_Rel (k + 4) u' v') v v1) u v1 := by
  obtain ⟨c, w, inp, wd, ki, fi, se, th, wa, wv, rs, ws, rv, hc, hw, hO, hW, rfl, rfl⟩ := I
  unfold wpX_fetch wpY_fetch
  dsimp only
  refine dg_xone hc (fun hn => ?_) (fun hn h2 => ?_) (fun hn h2 => ?_)
  · exact dg_y0 hc hn (br_t rfl ⟨rfl, dg_rel hc hw hO hW⟩)
  · exact dg_y1 hc hn (br_f (by decide) (dg_yful h2 hc ⟨rfl, dg_rel hc hw hO hW⟩))
  · exact dg_y1 hc hn (br_f (by decide) (dg_yapp h2 ⟨rfl, dg_relA h2 hw hO hW (Or.inr (Or.inr (Or.inr (Or.inr (Or.inr (Or.inr (Or.inr (Or.inl (⟨rfl, dg_nin hc hn⟩)))))))))⟩))
theorem i_vc_shift {k : Nat} {u : SX} {v : SY} (I : i_Rel k u v) (hk : k + 4 ≤ 2048) (v1 : Int32) (v2 : Int32) : wpX_shift (fun r u' => wpY_shift (fun r' v' => r' = r ∧ i_Rel (k + 4) u' v') v v1 v2) u v1 v2 := by
  obtain ⟨c, w, inp, wd, ki, fi, se, th, wa, wv, rs, ws, rv, hc, hw, hO, hW, rfl, rfl⟩ := I
  unfold wpX_shift wpY_shift
  dsimp only
  by_cases h0 : v2 < 0
  · refine br_t h0 ?_
    by_cases hn : dg_nod c v1
    · exact dg_y1 hc hn (br_f (by decide) (br_t h0 ⟨rfl, dg_rel hc hw hO hW⟩))
    · exact dg_y0 hc hn (br_t rfl ⟨rfl, dg_rel hc hw hO hW⟩)
  · by_cases h1 : v2 ≤ 31
    · have h3 : ¬ (31 : Int32) < v2 := Int32.not_lt.mpr h1
      refine br_f h0 (br_t h1 ?_)
      refine dg_xone hc (fun hn => ?_) (fun hn h2 => ?_) (fun hn h2 => ?_)
      · exact dg_y0 hc hn (br_t rfl ⟨rfl, dg_rel hc hw hO hW⟩)
      · exact dg_y1 hc hn (br_f (by decide) (br_f h0 (br_f h3 (dg_yful h2 hc ⟨rfl, dg_rel hc hw hO hW⟩))))
      · exact dg_y1 hc hn (br_f (by decide) (br_f h0 (br_f h3 (dg_yapp h2 ⟨rfl, dg_relA h2 hw hO hW (Or.inr (Or.inr (Or.inr (Or.inr (Or.inr (Or.inr (Or.inl (⟨rfl, dg_nin hc hn⟩))))))))⟩))))
    · have h3 : (31 : Int32) < v2 := Int32.not_le.mp h1
      refine br_f h0 (br_f h1 ?_)
      by_cases hn : dg_nod c v1
      · exact dg_y1 hc hn (br_f (by decide) (br_f h0 (br_t h3 ⟨rfl, dg_rel hc hw hO hW⟩)))
      · exact dg_y0 hc hn (br_t rfl ⟨rfl, dg_rel hc hw hO hW⟩)
theorem i_vc_pick {k : Nat} {u : SX} {v : SY} (I : i_Rel k u v) (hk : k + 4 ≤ 2048) (v1 : Int32) (v2 : Int32) (v3 : Int32) : wpX_pick (fun r u' => wpY_pick (fun r' v' => r' = r ∧ i_Rel (k + 4) u' v') v v1 v2 v3) u v1 v2 v3 := by
  obtain ⟨c, w, inp, wd, ki, fi, se, th, wa, wv, rs, ws, rv, hc, hw, hO, hW, rfl, rfl⟩ := I
  unfold wpX_pick wpY_pick
  dsimp only
  by_cases h1 : dg_nod c v1
  · refine dg_x1 hc h1 (br_f (by decide) ?_)
    by_cases h2 : dg_nod c v2
    · refine dg_x1 hc h2 (br_f (by decide) ?_)
      by_cases h3 : dg_nod c v3
      · refine dg_x1 hc h3 (br_f (by decide) ?_)
        by_cases h4 : c < 20
        · refine dg_xapp h4 ?_
          exact dg_y1 hc h1 (br_f (by decide) (dg_y1 hc h2 (br_f (by decide) (dg_y1 hc h3 (br_f (by decide) (dg_yapp h4 ⟨rfl, dg_relA h4 hw hO hW (Or.inr (Or.inr (Or.inr (Or.inr (Or.inr (Or.inr (Or.inr (Or.inr (Or.inr (⟨rfl, dg_nin hc h1, dg_nin hc h2, dg_nin hc h3⟩))))))))))⟩))))))
        · refine dg_xful h4 hc ?_
          exact dg_y1 hc h1 (br_f (by decide) (dg_y1 hc h2 (br_f (by decide) (dg_y1 hc h3 (br_f (by decide) (dg_yful h4 hc ⟨rfl, dg_rel hc hw hO hW⟩))))))
      · refine dg_x0 hc h3 (br_t rfl ?_)
        exact dg_y1 hc h1 (br_f (by decide) (dg_y1 hc h2 (br_f (by decide) (dg_y0 hc h3 (br_t rfl ⟨rfl, dg_rel hc hw hO hW⟩)))))
    · refine dg_x0 hc h2 (br_t rfl ?_)
      exact dg_y1 hc h1 (br_f (by decide) (dg_y0 hc h2 (br_t rfl ⟨rfl, dg_rel hc hw hO hW⟩)))
  · refine dg_x0 hc h1 (br_t rfl ?_)
    exact dg_y0 hc h1 (br_t rfl ⟨rfl, dg_rel hc hw hO hW⟩)
/-- X asks L ≤ n, Y asks n ≤ M, where L = M + 1 -/
theorem dg_lit {n : Int32} (h0 : ¬ n < 0) (L M : Nat) (hL : L = M + 1) (hM : L < 2 ^ 31) : (nI L ≤ n ∧ ¬ n ≤ nI M) ∨ (¬ nI L ≤ n ∧ n ≤ nI M ∧ vp_in n L) := by
  obtain ⟨j, hj, rfl⟩ := nI_of h0
  by_cases h : L ≤ j
  · exact Or.inl ⟨nI_le h hj, nI_ge (by omega) hj⟩
  · exact Or.inr ⟨nI_ge (by omega) hM, nI_le (by omega) (by omega), vp_in_nI (by omega) hM⟩
theorem dg_l6 {n : Int32} (h0 : ¬ n < 0) : ((6 : Int32) ≤ n ∧ ¬ n ≤ 5) ∨ (¬ (6 : Int32) ≤ n ∧ n ≤ 5 ∧ vp_in n 6) := dg_lit h0 6 5 rfl (by decide)
theorem dg_l16 {n : Int32} (h0 : ¬ n < 0) : ((16 : Int32) ≤ n ∧ ¬ n ≤ 15) ∨ (¬ (16 : Int32) ≤ n ∧ n ≤ 15 ∧ vp_in n 16) := dg_lit h0 16 15 rfl (by decide)
theorem i_vc_input {k : Nat} {u : SX} {v : SY} (I : i_Rel k u v) (hk : k + 4 ≤ 2048) (v1 : Int32) : wpX_input (fun r u' => wpY_input (fun r' v' => r' = r ∧ i_Rel (k + 4) u' v') v v1) u v1 := by
  obtain ⟨c, w, inp, wd, ki, fi, se, th, wa, wv, rs, ws, rv, hc, hw, hO, hW, rfl, rfl⟩ := I
  unfold wpX_input wpY_input
  dsimp only
  by_cases h0 : v1 < 0
  · exact br_t h0 (br_t rfl (br_t h0 ⟨rfl, dg_rel hc hw hO hW⟩))
  · rcases dg_l6 h0 with ⟨h1, h2⟩ | ⟨h1, h2, h3⟩
    · exact br_f h0 (br_t h1 (br_t rfl (br_f h0 (br_f h2 ⟨rfl, dg_rel hc hw hO hW⟩))))
    · refine br_f h0 (br_f h1 (br_f (by decide) ?_))
      by_cases h4 : c < 20
      · exact dg_xapp h4 (br_f h0 (br_t h2 (dg_yapp h4 ⟨rfl, dg_relA h4 hw hO hW (Or.inr (Or.inl (⟨rfl, h3⟩)))⟩)))
      · exact dg_xful h4 hc (br_f h0 (br_t h2 (dg_yful h4 hc ⟨rfl, dg_rel hc hw hO hW⟩)))
end
end
section
section
variable {c w : Nat} {inp wd ki fi se th wa wv rs ws rv : Nat → Int32}
theorem dg_wU {a b : Int32} (hc : c ≤ 20) (ha : dg_nod c a) (hb : dg_nod c b) (hW : ∀ j, j < w → vp_in (wa j) 20 ∧ vp_in (wv j) 20) : ∀ j, j < w + 1 → vp_in (upd wa w a j) 20 ∧ vp_in (upd wv w b j) 20 := by
  intro j hj
  by_cases e : j = w
  · subst e
    rw [dg_us, dg_us]
    exact ⟨dg_nin hc ha, dg_nin hc hb⟩
  · rw [dg_un e, dg_un e]
    exact hW j (by omega)
theorem i_vc_write {k : Nat} {u : SX} {v : SY} (I : i_Rel k u v) (hk : k + 4 ≤ 2048) (v1 : Int32) (v2 : Int32) : wpX_write (fun r u' => wpY_write (fun r' v' => r' = r ∧ i_Rel (k + 4) u' v') v v1 v2) u v1 v2 := by
  obtain ⟨c, w, inp, wd, ki, fi, se, th, wa, wv, rs, ws, rv, hc, hw, hO, hW, rfl, rfl⟩ := I
  have e : (nI w).toNatClampNeg = w := nI_clamp (by omega)
  unfold wpX_write wpY_write
  dsimp only
  rw [e, nI_1]
  by_cases h1 : dg_nod c v1
  · refine dg_x1 hc h1 (br_f (by decide) ?_)
    by_cases h2 : dg_nod c v2
    · refine dg_x1 hc h2 (br_f (by decide) ?_)
      by_cases h4 : w < 4
      · have i : vp_in (nI w) 4 := vp_in_nI h4 (by omega)
        have l : nI w < 4 := by rw [← dg_4]; exact nI_lt h4 (by omega)
        have l' : ¬ nI w = 4 := by rw [← dg_4, nI_eq (by omega) (by omega)]; omega
        refine br_t l ⟨i, nm_e ⟨i, nm_e (nm_e ?_)⟩⟩
        refine dg_y1 hc h1 (br_f (by decide) (dg_y1 hc h2 (br_f (by decide) (br_f l' ⟨i, nm_e ⟨i, nm_e (nm_e ⟨nI_pred w, ?_⟩)⟩⟩))))
        exact ⟨c, w + 1, inp, wd, ki, fi, se, th, upd wa w v1, upd wv w v2, rs, ws, rv, hc, by omega, hO, dg_wU hc h1 h2 hW, rfl, rfl⟩
      · have l : ¬ nI w < 4 := by rw [← dg_4]; exact nI_nlt (by omega) (by omega)
        have l' : nI w = 4 := by rw [← dg_4, nI_eq (by omega) (by omega)]; omega
        exact br_f l (dg_y1 hc h1 (br_f (by decide) (dg_y1 hc h2 (br_f (by decide) (br_t l' ⟨rfl, dg_rel hc hw hO hW⟩)))))
    · refine dg_x0 hc h2 (br_t rfl ?_)
      exact dg_y1 hc h1 (br_f (by decide) (dg_y0 hc h2 (br_t rfl ⟨rfl, dg_rel hc hw hO hW⟩)))
  · refine dg_x0 hc h1 (br_t rfl ?_)
    exact dg_y0 hc h1 (br_t rfl ⟨rfl, dg_rel hc hw hO hW⟩)
theorem i_vc_result {k : Nat} {u : SX} {v : SY} (I : i_Rel k u v) (hk : k + 4 ≤ 2048) (v1 : Int32) (v2 : Int32) : wpX_result (fun r u' => wpY_result (fun r' v' => r' = r ∧ i_Rel (k + 4) u' v') v v1 v2) u v1 v2 := by
  obtain ⟨c, w, inp, wd, ki, fi, se, th, wa, wv, rs, ws, rv, hc, hw, hO, hW, rfl, rfl⟩ := I
  unfold wpX_result wpY_result
  dsimp only
  by_cases hn : dg_nod c v1
  · have i : vp_in v1 20 := dg_nin hc hn
    by_cases z : rs v1.toNatClampNeg = 0
    · by_cases o : v2 = 0
      · exact dg_x1 hc hn (br_f (by decide) ⟨i, br_t z (br_t o ⟨i, nm_e (dg_y1 hc hn (br_f (by decide) ⟨i, br_t z (br_t o ⟨i, nm_e ⟨rfl, dg_rel hc hw hO hW⟩⟩)⟩))⟩)⟩)
      · exact dg_x1 hc hn (br_f (by decide) ⟨i, br_t z (br_f o ⟨i, nm_e (dg_y1 hc hn (br_f (by decide) ⟨i, br_t z (br_f o ⟨i, nm_e ⟨rfl, dg_rel hc hw hO hW⟩⟩)⟩))⟩)⟩)
    · by_cases o : v2 = 0
      · exact dg_x1 hc hn (br_f (by decide) ⟨i, br_f z (br_t o ⟨i, nm_e (dg_y1 hc hn (br_f (by decide) ⟨i, br_f z (br_t o ⟨i, nm_e ⟨rfl, dg_rel hc hw hO hW⟩⟩)⟩))⟩)⟩)
      · exact dg_x1 hc hn (br_f (by decide) ⟨i, br_f z (br_f o ⟨i, nm_e (dg_y1 hc hn (br_f (by decide) ⟨i, br_f z (br_f o ⟨i, nm_e ⟨rfl, dg_rel hc hw hO hW⟩⟩)⟩))⟩)⟩)
  · exact dg_x0 hc hn (br_t rfl (dg_y0 hc hn (br_t rfl ⟨rfl, dg_rel hc hw hO hW⟩)))
theorem i_vc_nodes {k : Nat} {u : SX} {v : SY} (I : i_Rel k u v) (hk : k + 4 ≤ 2048) : wpX_nodes (fun r => wpY_nodes (fun r' => r' = r ∧ i_Rel (k + 4) u v) v) u := by
  obtain ⟨c, w, inp, wd, ki, fi, se, th, wa, wv, rs, ws, rv, hc, hw, hO, hW, rfl, rfl⟩ := I
  exact ⟨rfl, dg_rel hc hw hO hW⟩
theorem i_vc_clear {k : Nat} {u : SX} {v : SY} (I : i_Rel k u v) (hk : k + 4 ≤ 2048) : wpX_clear (fun u' => wpY_clear (fun v' => i_Rel (k + 4) u' v') v) u := by
  obtain ⟨c, w, inp, wd, ki, fi, se, th, wa, wv, rs, ws, rv, hc, hw, hO, hW, rfl, rfl⟩ := I
  exact ⟨0, 0, inp, wd, ki, fi, se, th, wa, wv, rs, ws, rv, by omega, by omega, fun j h => absurd h (Nat.not_lt_zero j), fun j h => absurd h (Nat.not_lt_zero j), rfl, rfl⟩
theorem i_vc_setInput {k : Nat} {u : SX} {v : SY} (I : i_Rel k u v) (hk : k + 4 ≤ 2048) (v1 : Int32) (v2 : Int32) : wpX_setInput (fun r u' => wpY_setInput (fun r' v' => r' = r ∧ i_Rel (k + 4) u' v') v v1 v2) u v1 v2 := by
  obtain ⟨c, w, inp, wd, ki, fi, se, th, wa, wv, rs, ws, rv, hc, hw, hO, hW, rfl, rfl⟩ := I
  unfold wpX_setInput wpY_setInput
  dsimp only
  by_cases h0 : v1 < 0
  · exact br_t h0 (br_t rfl (br_t h0 ⟨rfl, dg_rel hc hw hO hW⟩))
  · rcases dg_l6 h0 with ⟨h1, h2⟩ | ⟨h1, h2, h3⟩
    · exact br_f h0 (br_t h1 (br_t rfl (br_f h0 (br_f h2 ⟨rfl, dg_rel hc hw hO hW⟩))))
    · exact br_f h0 (br_f h1 (br_f (by decide) ⟨h3, nm_e (br_f h0 (br_t h2 ⟨h3, nm_e ⟨rfl, dg_rel hc hw hO hW⟩⟩))⟩))
theorem i_vc_setWord {k : Nat} {u : SX} {v : SY} (I : i_Rel k u v) (hk : k + 4 ≤ 2048) (v1 : Int32) (v2 : Int32) : wpX_setWord (fun r u' => wpY_setWord (fun r' v' => r' = r ∧ i_Rel (k + 4) u' v') v v1 v2) u v1 v2 := by
  obtain ⟨c, w, inp, wd, ki, fi, se, th, wa, wv, rs, ws, rv, hc, hw, hO, hW, rfl, rfl⟩ := I
  unfold wpX_setWord wpY_setWord
  dsimp only
  by_cases h0 : v1 < 0
  · exact br_t h0 (br_t rfl (br_t h0 ⟨rfl, dg_rel hc hw hO hW⟩))
  · rcases dg_l16 h0 with ⟨h1, h2⟩ | ⟨h1, h2, h3⟩
    · exact br_f h0 (br_t h1 (br_t rfl (br_f h0 (br_f h2 ⟨rfl, dg_rel hc hw hO hW⟩))))
    · exact br_f h0 (br_f h1 (br_f (by decide) ⟨h3, nm_e (br_f h0 (br_t h2 ⟨h3, nm_e ⟨rfl, dg_rel hc hw hO hW⟩⟩))⟩))
theorem i_vc_word {k : Nat} {u : SX} {v : SY} (I : i_Rel k u v) (hk : k + 4 ≤ 2048) (v1 : Int32) : wpX_word (fun r => wpY_word (fun r' => r' = r ∧ i_Rel (k + 4) u v) v v1) u v1 := by
  obtain ⟨c, w, inp, wd, ki, fi, se, th, wa, wv, rs, ws, rv, hc, hw, hO, hW, rfl, rfl⟩ := I
  unfold wpX_word wpY_word
  dsimp only
  by_cases h0 : v1 < 0
  · exact br_t h0 (br_t rfl (br_t h0 ⟨rfl, dg_rel hc hw hO hW⟩))
  · rcases dg_l16 h0 with ⟨h1, h2⟩ | ⟨h1, h2, h3⟩
    · exact br_f h0 (br_t h1 (br_t rfl (br_f h0 (br_f h2 ⟨rfl, dg_rel hc hw hO hW⟩))))
    · exact br_f h0 (br_f h1 (br_f (by decide) ⟨h3, br_f h0 (br_t h2 ⟨h3, ⟨rfl, dg_rel hc hw hO hW⟩⟩)⟩))
theorem i_vc_known {k : Nat} {u : SX} {v : SY} (I : i_Rel k u v) (hk : k + 4 ≤ 2048) (v1 : Int32) : wpX_known (fun r => wpY_known (fun r' => r' = r ∧ i_Rel (k + 4) u v) v v1) u v1 := by
  obtain ⟨c, w, inp, wd, ki, fi, se, th, wa, wv, rs, ws, rv, hc, hw, hO, hW, rfl, rfl⟩ := I
  unfold wpX_known wpY_known
  dsimp only
  by_cases hn : dg_nod c v1
  · have i : vp_in v1 20 := dg_nin hc hn
    by_cases z : ws v1.toNatClampNeg = 0
    · exact dg_x1 hc hn (br_f (by decide) ⟨i, br_t z (dg_y1 hc hn (br_f (by decide) ⟨i, br_t z ⟨rfl, dg_rel hc hw hO hW⟩⟩))⟩)
    · exact dg_x1 hc hn (br_f (by decide) ⟨i, br_f z (dg_y1 hc hn (br_f (by decide) ⟨i, br_f z ⟨rfl, dg_rel hc hw hO hW⟩⟩))⟩)
  · exact dg_x0 hc hn (br_t rfl (dg_y0 hc hn (br_t rfl ⟨rfl, dg_rel hc hw hO hW⟩)))
theorem i_vc_value {k : Nat} {u : SX} {v : SY} (I : i_Rel k u v) (hk : k + 4 ≤ 2048) (v1 : Int32) : wpX_value (fun r => wpY_value (fun r' => r' = r ∧ i_Rel (k + 4) u v) v v1) u v1 := by
  obtain ⟨c, w, inp, wd, ki, fi, se, th, wa, wv, rs, ws, rv, hc, hw, hO, hW, rfl, rfl⟩ := I
  unfold wpX_value wpX_known wpY_value
  dsimp only
  by_cases hn : dg_nod c v1
  · have i : vp_in v1 20 := dg_nin hc hn
    by_cases z : ws v1.toNatClampNeg = 0
    · exact dg_x1 hc hn (br_f (by decide) ⟨i, br_t z (br_t rfl (dg_y1 hc hn (br_f (by decide) ⟨i, br_t z ⟨rfl, dg_rel hc hw hO hW⟩⟩)))⟩)
    · exact dg_x1 hc hn (br_f (by decide) ⟨i, br_f z (br_f (by decide) ⟨i, dg_y1 hc hn (br_f (by decide) ⟨i, br_f z ⟨i, ⟨rfl, dg_rel hc hw hO hW⟩⟩⟩)⟩)⟩)
  · exact dg_x0 hc hn (br_t rfl (br_t rfl (dg_y0 hc hn (br_t rfl ⟨rfl, dg_rel hc hw hO hW⟩))))
theorem dg_scan (hc : c ≤ 20) : ∀ (d j : Nat) (s : Int32), j + d = c → ∃ r : Int32, (∀ P : Int32 → Prop, P r → wX_digest_4 P (nI c) (nI w) inp wd ki fi se th wa wv rs ws rv (d + 1) s (nI j)) ∧ (∀ P : Int32 → Prop, P r → wY_digest_4 P (nI c) (nI w) ki fi se th rs wa wv inp wd rv ws rv (d + 1) s (nI j)) := by
  intro d
  induction d with
  | zero =>
    intro j s hj
    have h : nI c ≤ nI j := nI_le (by omega) (by omega)
    exact ⟨s, fun _ hp => br_t h hp, fun _ hp => br_t h hp⟩
  | succ d ih =>
    intro j s hj
    have h : ¬ nI c ≤ nI j := nI_ge (by omega) (by omega)
    have hi : vp_in (nI j) 20 := vp_in_nI (by omega) (by omega)
    by_cases z : ws (nI j).toNatClampNeg = 0
    · obtain ⟨r, hX, hY⟩ := ih (j + 1) s (by omega)
      exact ⟨r, fun P hp => br_f h ⟨hi, br_t z (nm_r (nI_1 j) (hX P hp))⟩, fun P hp => br_f h ⟨hi, br_t z (nm_r (nI_1 j) (hY P hp))⟩⟩
    · obtain ⟨r, hX, hY⟩ := ih (j + 1) (s + ((nI j + 1) * (rv (nI j).toNatClampNeg))) (by omega)
      exact ⟨r, fun P hp => br_f h ⟨hi, br_f z ⟨hi, nm_e (nm_r (nI_1 j) (hX P hp))⟩⟩, fun P hp => br_f h ⟨hi, br_f z ⟨hi, nm_e (nm_r (nI_1 j) (hY P hp))⟩⟩⟩
theorem i_vc_digest {k : Nat} {u : SX} {v : SY} (I : i_Rel k u v) (hk : k + 4 ≤ 2048) : wpX_digest (fun r => wpY_digest (fun r' => r' = r ∧ i_Rel (k + 4) u v) v) u := by
  obtain ⟨c, w, inp, wd, ki, fi, se, th, wa, wv, rs, ws, rv, hc, hw, hO, hW, rfl, rfl⟩ := I
  obtain ⟨r, hX, hY⟩ := dg_scan (w := w) (inp := inp) (wd := wd) (ki := ki) (fi := fi) (se := se) (th := th) (wa := wa) (wv := wv) (rs := rs) (ws := ws) (rv := rv) hc c 0 0 (Nat.zero_add c)
  exact ⟨c + 1, hX _ ⟨c + 1, hY _ ⟨rfl, dg_rel hc hw hO hW⟩⟩⟩
end
end
section
section
/-- the value of node i, by its kind; g: the values of the nodes ahead of it -/
def dg_val (inp wd ki fi se th g : Nat → Int32) (i : Nat) : Int32 :=
  if ki i = 0 then fi i else
  if ki i = 1 then inp (fi i).toNatClampNeg else
  if ki i = 2 then g (fi i).toNatClampNeg + g (se i).toNatClampNeg else
  if ki i = 3 then g (fi i).toNatClampNeg - g (se i).toNatClampNeg else
  if ki i = 4 then g (fi i).toNatClampNeg * g (se i).toNatClampNeg else
  if ki i = 5 then -(g (fi i).toNatClampNeg) else
  if ki i = 6 then g (fi i).toNatClampNeg <<< (se i &&& 31) else
  if ki i = 7 then wd (g (fi i).toNatClampNeg &&& 15).toNatClampNeg else
  if ki i = 8 then (if g (se i).toNatClampNeg ≤ g (fi i).toNatClampNeg then 0 else 1) else
  if g (fi i).toNatClampNeg = 0 then g (th i).toNatClampNeg else g (se i).toNatClampNeg
variable {inp wd ki fi se th wa wv rs ws rv g : Nat → Int32} {c w i : Nat}
theorem dg_v0 (h : ki i = 0) : dg_val inp wd ki fi se th g i = (fi i) := by
  unfold dg_val
  rw [h, if_pos rfl]
theorem dg_v1 (h : ki i = 1) : dg_val inp wd ki fi se th g i = (inp (fi i).toNatClampNeg) := by
  unfold dg_val
  rw [h, if_neg (show ¬ (1 : Int32) = 0 by decide), if_pos rfl]
theorem dg_v2 (h : ki i = 2) : dg_val inp wd ki fi se th g i = (g (fi i).toNatClampNeg + g (se i).toNatClampNeg) := by
  unfold dg_val
  rw [h, if_neg (show ¬ (2 : Int32) = 0 by decide), if_neg (show ¬ (2 : Int32) = 1 by decide), if_pos rfl]
theorem dg_v3 (h : ki i = 3) : dg_val inp wd ki fi se th g i = (g (fi i).toNatClampNeg - g (se i).toNatClampNeg) := by
  unfold dg_val
  rw [h, if_neg (show ¬ (3 : Int32) = 0 by decide), if_neg (show ¬ (3 : Int32) = 1 by decide), if_neg (show ¬ (3 : Int32) = 2 by decide), if_pos rfl]
theorem dg_v4 (h : ki i = 4) : dg_val inp wd ki fi se th g i = (g (fi i).toNatClampNeg * g (se i).toNatClampNeg) := by
  unfold dg_val
  rw [h, if_neg (show ¬ (4 : Int32) = 0 by decide), if_neg (show ¬ (4 : Int32) = 1 by decide), if_neg (show ¬ (4 : Int32) = 2 by decide), if_neg (show ¬ (4 : Int32) = 3 by decide), if_pos rfl]
theorem dg_v5 (h : ki i = 5) : dg_val inp wd ki fi se th g i = (-(g (fi i).toNatClampNeg)) := by
  unfold dg_val
  rw [h, if_neg (show ¬ (5 : Int32) = 0 by decide), if_neg (show ¬ (5 : Int32) = 1 by decide), if_neg (show ¬ (5 : Int32) = 2 by decide), if_neg (show ¬ (5 : Int32) = 3 by decide), if_neg (show ¬ (5 : Int32) = 4 by decide), if_pos rfl]
theorem dg_v6 (h : ki i = 6) : dg_val inp wd ki fi se th g i = (g (fi i).toNatClampNeg <<< (se i &&& 31)) := by
  unfold dg_val
  rw [h, if_neg (show ¬ (6 : Int32) = 0 by decide), if_neg (show ¬ (6 : Int32) = 1 by decide), if_neg (show ¬ (6 : Int32) = 2 by decide), if_neg (show ¬ (6 : Int32) = 3 by decide), if_neg (show ¬ (6 : Int32) = 4 by decide), if_neg (show ¬ (6 : Int32) = 5 by decide), if_pos rfl]
theorem dg_v7 (h : ki i = 7) : dg_val inp wd ki fi se th g i = (wd (g (fi i).toNatClampNeg &&& 15).toNatClampNeg) := by
  unfold dg_val
  rw [h, if_neg (show ¬ (7 : Int32) = 0 by decide), if_neg (show ¬ (7 : Int32) = 1 by decide), if_neg (show ¬ (7 : Int32) = 2 by decide), if_neg (show ¬ (7 : Int32) = 3 by decide), if_neg (show ¬ (7 : Int32) = 4 by decide), if_neg (show ¬ (7 : Int32) = 5 by decide), if_neg (show ¬ (7 : Int32) = 6 by decide), if_pos rfl]
theorem dg_v8 (h : ki i = 8) : dg_val inp wd ki fi se th g i = (if g (se i).toNatClampNeg ≤ g (fi i).toNatClampNeg then 0 else 1) := by
  unfold dg_val
  rw [h, if_neg (show ¬ (8 : Int32) = 0 by decide), if_neg (show ¬ (8 : Int32) = 1 by decide), if_neg (show ¬ (8 : Int32) = 2 by decide), if_neg (show ¬ (8 : Int32) = 3 by decide), if_neg (show ¬ (8 : Int32) = 4 by decide), if_neg (show ¬ (8 : Int32) = 5 by decide), if_neg (show ¬ (8 : Int32) = 6 by decide), if_neg (show ¬ (8 : Int32) = 7 by decide), if_pos rfl]
theorem dg_v9 (h : ki i = 9) : dg_val inp wd ki fi se th g i = (if g (fi i).toNatClampNeg = 0 then g (th i).toNatClampNeg else g (se i).toNatClampNeg) := by
  unfold dg_val
  rw [h, if_neg (show ¬ (9 : Int32) = 0 by decide), if_neg (show ¬ (9 : Int32) = 1 by decide), if_neg (show ¬ (9 : Int32) = 2 by decide), if_neg (show ¬ (9 : Int32) = 3 by decide), if_neg (show ¬ (9 : Int32) = 4 by decide), if_neg (show ¬ (9 : Int32) = 5 by decide), if_neg (show ¬ (9 : Int32) = 6 by decide), if_neg (show ¬ (9 : Int32) = 7 by decide), if_neg (show ¬ (9 : Int32) = 8 by decide)]
/-- the values, marks, count and words after i nodes, or i writes -/
def dg_rv (inp wd ki fi se th rv : Nat → Int32) : Nat → Nat → Int32
  | 0 => rv
  | n + 1 => upd (dg_rv inp wd ki fi se th rv n) n (dg_val inp wd ki fi se th (dg_rv inp wd ki fi se th rv n) n)
def dg_ws (rs ws : Nat → Int32) : Nat → Nat → Int32
  | 0 => ws
  | n + 1 => upd (dg_ws rs ws n) n (vp_nar .boolean (rs n))
def dg_ct (rs : Nat → Int32) : Nat → Int32
  | 0 => 0
  | n + 1 => if rs n = 0 then dg_ct rs n else dg_ct rs n + 1
def dg_wd (wd wa wv g : Nat → Int32) : Nat → Nat → Int32
  | 0 => wd
  | n + 1 => upd (dg_wd wd wa wv g n) (g (wa n).toNatClampNeg &&& 15).toNatClampNeg (g (wv n).toNatClampNeg)
def dg_vl (vl g : Nat → Int32) : Nat → Nat → Int32
  | 0 => vl
  | n + 1 => upd (dg_vl vl g n) n (g n)
theorem dg_vlE (vl g : Nat → Int32) : ∀ n j : Nat, dg_vl vl g n j = if j < n then g j else vl j := by
  intro n
  induction n with
  | zero => intro j; exact (if_neg (Nat.not_lt_zero j)).symm
  | succ n ih =>
    intro j
    show upd (dg_vl vl g n) n (g n) j = _
    by_cases e : j = n
    · subst e
      rw [dg_us, if_pos (by omega)]
    · rw [dg_un e, ih j]
      by_cases h : j < n
      · rw [if_pos h, if_pos (by omega)]
      · rw [if_neg h, if_neg (by omega)]
theorem dg_rvE : ∀ n j : Nat, n ≤ j → dg_rv inp wd ki fi se th rv n j = rv j := by
  intro n
  induction n with
  | zero => intro j _; rfl
  | succ n ih =>
    intro j h
    show upd _ n _ j = _
    rw [dg_un (by omega), ih j (by omega)]
theorem dg_vlR (c : Nat) : dg_vl rv (dg_rv inp wd ki fi se th rv c) c = dg_rv inp wd ki fi se th rv c := by
  funext j
  rw [dg_vlE]
  by_cases h : j < c
  · rw [if_pos h]
  · rw [if_neg h, dg_rvE c j (by omega)]
theorem dg_xwork {P : Int32 → Prop} (hi : i < 20) (hk : dg_OK ki fi se th i) (h : P (dg_val inp wd ki fi se th g i)) : wpX_workOut P (nI c, nI w, inp, wd, ki, fi, se, th, wa, wv, rs, ws, g) (nI i) := by
  have e : (nI i).toNatClampNeg = i := nI_clamp (by omega)
  have t : vp_in (nI i) 20 := vp_in_nI hi (by omega)
  unfold wpX_workOut
  dsimp only
  rw [e]
  rcases hk with k0 | ⟨k0, f0⟩ | ⟨k0, f0, s0⟩ | ⟨k0, f0, s0⟩ | ⟨k0, f0, s0⟩ | ⟨k0, f0⟩ | ⟨k0, f0⟩ | ⟨k0, f0⟩ | ⟨k0, f0, s0⟩ | ⟨k0, f0, s0, t0⟩
  · rw [dg_v0 k0] at h
    refine ⟨t, nm_e ⟨t, nm_e ⟨t, nm_r k0 ?_⟩⟩⟩
    exact br_f (by decide) (br_f (by decide) (br_t rfl (h)))
  · rw [dg_v1 k0] at h
    refine ⟨t, nm_e ⟨t, nm_e ⟨t, nm_r k0 ?_⟩⟩⟩
    exact br_f (by decide) (br_f (by decide) (br_f (by decide) (br_t rfl (⟨f0, h⟩))))
  · rw [dg_v2 k0] at h
    refine ⟨t, nm_e ⟨t, nm_e ⟨t, nm_r k0 ?_⟩⟩⟩
    exact br_f (by decide) (br_f (by decide) (br_f (by decide) (br_f (by decide) (br_t rfl (⟨f0, s0, h⟩)))))
  · rw [dg_v3 k0] at h
    refine ⟨t, nm_e ⟨t, nm_e ⟨t, nm_r k0 ?_⟩⟩⟩
    exact br_f (by decide) (br_f (by decide) (br_f (by decide) (br_f (by decide) (br_f (by decide) (br_t rfl (⟨f0, s0, h⟩))))))
  · rw [dg_v4 k0] at h
    refine ⟨t, nm_e ⟨t, nm_e ⟨t, nm_r k0 ?_⟩⟩⟩
    exact br_f (by decide) (br_f (by decide) (br_f (by decide) (br_f (by decide) (br_f (by decide) (br_f (by decide) (br_t rfl (⟨f0, s0, h⟩)))))))
  · rw [dg_v5 k0] at h
    refine ⟨t, nm_e ⟨t, nm_e ⟨t, nm_r k0 ?_⟩⟩⟩
    exact br_f (by decide) (br_f (by decide) (br_f (by decide) (br_f (by decide) (br_f (by decide) (br_f (by decide) (br_f (by decide) (br_t rfl (⟨f0, h⟩))))))))
  · rw [dg_v6 k0] at h
    refine ⟨t, nm_e ⟨t, nm_e ⟨t, nm_r k0 ?_⟩⟩⟩
    exact br_f (by decide) (br_f (by decide) (br_f (by decide) (br_f (by decide) (br_f (by decide) (br_f (by decide) (br_f (by decide) (br_f (by decide) (br_t rfl (⟨f0, h⟩)))))))))
  · rw [dg_v7 k0] at h
    refine ⟨t, nm_e ⟨t, nm_e ⟨t, nm_r k0 ?_⟩⟩⟩
    exact br_f (by decide) (br_f (by decide) (br_f (by decide) (br_f (by decide) (br_f (by decide) (br_f (by decide) (br_f (by decide) (br_f (by decide) (br_f (by decide) (br_t rfl (⟨f0, dg_in16 _, h⟩))))))))))
  · rw [dg_v8 k0] at h
    refine ⟨t, nm_e ⟨t, nm_e ⟨t, nm_r k0 ?_⟩⟩⟩
    exact br_f (by decide) (br_f (by decide) (br_f (by decide) (br_f (by decide) (br_f (by decide) (br_f (by decide) (br_f (by decide) (br_f (by decide) (br_f (by decide) (br_f (by decide) (br_t rfl (⟨f0, s0, br_c (fun z => by rw [if_pos z] at h; exact h) (fun z => by rw [if_neg z] at h; exact h)⟩)))))))))))
  · rw [dg_v9 k0] at h
    refine ⟨t, nm_e ⟨t, nm_e ⟨t, nm_r k0 ?_⟩⟩⟩
    exact br_f (by decide) (br_f (by decide) (br_f (by decide) (br_f (by decide) (br_f (by decide) (br_f (by decide) (br_f (by decide) (br_f (by decide) (br_f (by decide) (br_f (by decide) (br_f (by decide) (br_t rfl (⟨f0, br_c (fun z => ⟨t, t0, by rw [if_pos z] at h; exact h⟩) (fun z => ⟨s0, by rw [if_neg z] at h; exact h⟩)⟩))))))))))))
theorem dg_neg {P : Int32 → Prop} {x : Int32} (h : P (-x)) : P (0 - x) := by
  rw [Int32.zero_sub]
  exact h
theorem dg_yplain {P : Int32 → Prop} {vl : Nat → Int32} (hi : i < 20) (hk : ki i = 0 ∨ (ki i = 1 ∧ vp_in (fi i) 6) ∨ (ki i = 5 ∧ vp_in (fi i) 20) ∨ (ki i = 6 ∧ vp_in (fi i) 20) ∨ (ki i = 7 ∧ vp_in (fi i) 20)) (h : P (dg_val inp wd ki fi se th g i)) : wpY_plain P (nI c, nI w, ki, fi, se, th, rs, wa, wv, inp, wd, g, ws, vl) (nI i) := by
  have e : (nI i).toNatClampNeg = i := nI_clamp (by omega)
  have t : vp_in (nI i) 20 := vp_in_nI hi (by omega)
  unfold wpY_plain
  dsimp only
  rw [e]
  rcases hk with k0 | ⟨k0, f0⟩ | ⟨k0, f0⟩ | ⟨k0, f0⟩ | ⟨k0, f0⟩
  · rw [dg_v0 k0] at h
    rw [k0]
    exact ⟨t, br_t rfl ⟨t, h⟩⟩
  · rw [dg_v1 k0] at h
    rw [k0]
    exact ⟨t, br_f (by decide) ⟨t, br_t rfl ⟨t, f0, h⟩⟩⟩
  · rw [dg_v5 k0] at h
    rw [k0]
    exact ⟨t, br_f (by decide) ⟨t, br_f (by decide) ⟨t, f0, nm_e ⟨t, br_t rfl (dg_neg h)⟩⟩⟩⟩
  · rw [dg_v6 k0] at h
    rw [k0]
    exact ⟨t, br_f (by decide) ⟨t, br_f (by decide) ⟨t, f0, nm_e ⟨t, br_f (by decide) ⟨t, br_t rfl ⟨t, h⟩⟩⟩⟩⟩⟩
  · rw [dg_v7 k0] at h
    rw [k0]
    exact ⟨t, br_f (by decide) ⟨t, br_f (by decide) ⟨t, f0, nm_e ⟨t, br_f (by decide) ⟨t, br_f (by decide) ⟨dg_in16 _, h⟩⟩⟩⟩⟩⟩
theorem dg_ycomp {P : Int32 → Prop} {vl : Nat → Int32} (hi : i < 20) (hk : (ki i = 2 ∧ vp_in (fi i) 20 ∧ vp_in (se i) 20) ∨ (ki i = 3 ∧ vp_in (fi i) 20 ∧ vp_in (se i) 20) ∨ (ki i = 4 ∧ vp_in (fi i) 20 ∧ vp_in (se i) 20) ∨ (ki i = 8 ∧ vp_in (fi i) 20 ∧ vp_in (se i) 20) ∨ (ki i = 9 ∧ vp_in (fi i) 20 ∧ vp_in (se i) 20 ∧ vp_in (th i) 20)) (h : P (dg_val inp wd ki fi se th g i)) : wpY_compound P (nI c, nI w, ki, fi, se, th, rs, wa, wv, inp, wd, g, ws, vl) (nI i) := by
  have e : (nI i).toNatClampNeg = i := nI_clamp (by omega)
  have t : vp_in (nI i) 20 := vp_in_nI hi (by omega)
  unfold wpY_compound
  dsimp only
  rw [e]
  rcases hk with ⟨k0, f0, s0⟩ | ⟨k0, f0, s0⟩ | ⟨k0, f0, s0⟩ | ⟨k0, f0, s0⟩ | ⟨k0, f0, s0, t0⟩
  · rw [dg_v2 k0] at h
    rw [k0]
    exact ⟨t, f0, nm_e ⟨t, s0, nm_e ⟨t, br_t rfl h⟩⟩⟩
  · rw [dg_v3 k0] at h
    rw [k0]
    exact ⟨t, f0, nm_e ⟨t, s0, nm_e ⟨t, br_f (by decide) ⟨t, br_t rfl h⟩⟩⟩⟩
  · rw [dg_v4 k0] at h
    rw [k0]
    exact ⟨t, f0, nm_e ⟨t, s0, nm_e ⟨t, br_f (by decide) ⟨t, br_f (by decide) ⟨t, br_t rfl h⟩⟩⟩⟩⟩
  · rw [dg_v8 k0] at h
    rw [k0]
    exact ⟨t, f0, nm_e ⟨t, s0, nm_e ⟨t, br_f (by decide) ⟨t, br_f (by decide) ⟨t, br_f (by decide) ⟨t, br_t rfl (br_c (fun z => by rw [if_pos z] at h; exact h) (fun z => by rw [if_neg z] at h; exact h))⟩⟩⟩⟩⟩⟩
  · rw [dg_v9 k0] at h
    rw [k0]
    exact ⟨t, f0, nm_e ⟨t, s0, nm_e ⟨t, br_f (by decide) ⟨t, br_f (by decide) ⟨t, br_f (by decide) ⟨t, br_f (by decide) (br_c (fun z => ⟨t, t0, by rw [if_pos z] at h; exact h⟩) (fun z => by rw [if_neg z] at h; exact h))⟩⟩⟩⟩⟩⟩
end
end
section
section
variable {inp wd ki fi se th wa wv rs ws rv vl g : Nat → Int32} {c w i : Nat}
theorem dg_xcarry {P : SX → Prop} (hw : w ≤ 4) (hW : ∀ j, j < w → vp_in (wa j) 20 ∧ vp_in (wv j) 20) (h : P (nI c, nI w, inp, dg_wd wd wa wv g w, ki, fi, se, th, wa, wv, rs, ws, g)) : wpX_carryOutWrites P (nI c, nI w, inp, wd, ki, fi, se, th, wa, wv, rs, ws, g) := by
  have key : ∀ d j : Nat, j + d = w → wX_carryOutWrites_2 P (nI c) (nI w) (d + 1) (nI j) inp (dg_wd wd wa wv g j) ki fi se th wa wv rs ws g := by
    intro d
    induction d with
    | zero =>
      intro j hj
      obtain rfl : j = w := by omega
      exact br_t (nI_le (Nat.le_refl j) (by omega)) h
    | succ d ih =>
      intro j hj
      have e : (nI j).toNatClampNeg = j := nI_clamp (by omega)
      have t : vp_in (nI j) 4 := vp_in_nI (by omega) (by omega)
      have q := hW j (by omega)
      rw [wX_carryOutWrites_2]
      dsimp only
      rw [e]
      exact br_f (nI_ge (by omega) (by omega)) ⟨t, q.1, nm_e ⟨t, q.2, dg_in16 _, nm_e (nm_r (nI_1 j) (ih (j + 1) (by omega)))⟩⟩
  exact ⟨w + 1, key w 0 (Nat.zero_add w)⟩
theorem dg_xrun {P : Int32 → SX → Prop} (hc : c ≤ 20) (hw : w ≤ 4) (hO : ∀ j, j < c → dg_OK ki fi se th j) (hW : ∀ j, j < w → vp_in (wa j) 20 ∧ vp_in (wv j) 20) (h : P (dg_ct rs c) (nI c, nI w, inp, dg_wd wd wa wv (dg_rv inp wd ki fi se th rv c) w, ki, fi, se, th, wa, wv, rs, dg_ws rs ws c, dg_rv inp wd ki fi se th rv c)) : wpX_run P (nI c, nI w, inp, wd, ki, fi, se, th, wa, wv, rs, ws, rv) := by
  have key : ∀ d j : Nat, j + d = c → wX_run_4 P (nI c) (nI w) (d + 1) (dg_ct rs j) (nI j) inp wd ki fi se th wa wv rs (dg_ws rs ws j) (dg_rv inp wd ki fi se th rv j) := by
    intro d
    induction d with
    | zero =>
      intro j hj
      obtain rfl : j = c := by omega
      exact br_t (nI_le (Nat.le_refl j) (by omega)) (dg_xcarry hw hW h)
    | succ d ih =>
      intro j hj
      have e : (nI j).toNatClampNeg = j := nI_clamp (by omega)
      have t : vp_in (nI j) 20 := vp_in_nI (by omega) (by omega)
      have q := ih (j + 1) (by omega)
      rw [wX_run_4]
      dsimp only
      rw [e]
      refine br_f (nI_ge (by omega) (by omega)) (dg_xwork (by omega) (hO j (by omega)) ⟨t, nm_e ⟨t, t, nm_e ⟨t, ?_⟩⟩⟩)
      by_cases z : rs j = 0
      · have f : dg_ct rs (j + 1) = dg_ct rs j := if_pos z
        rw [f] at q
        exact br_t z (nm_r (nI_1 j) q)
      · have f : dg_ct rs (j + 1) = dg_ct rs j + 1 := if_neg z
        rw [f] at q
        exact br_f z (nm_e (nm_r (nI_1 j) q))
  exact ⟨c + 1, key c 0 (Nat.zero_add c)⟩
theorem dg_yrun3 {P : Int32 → SY → Prop} (hc : c ≤ 20) (h : P (dg_ct rs c) (nI c, nI w, ki, fi, se, th, rs, wa, wv, inp, wd, g, dg_ws rs ws c, dg_vl vl g c)) : ∃ n : Nat, wY_run_126 P (nI c) (nI w) n 0 0 ki fi se th rs wa wv inp wd g ws vl := by
  have key : ∀ d j : Nat, j + d = c → wY_run_126 P (nI c) (nI w) (d + 1) (dg_ct rs j) (nI j) ki fi se th rs wa wv inp wd g (dg_ws rs ws j) (dg_vl vl g j) := by
    intro d
    induction d with
    | zero =>
      intro j hj
      obtain rfl : j = c := by omega
      exact br_t (nI_le (Nat.le_refl j) (by omega)) h
    | succ d ih =>
      intro j hj
      have e : (nI j).toNatClampNeg = j := nI_clamp (by omega)
      have t : vp_in (nI j) 20 := vp_in_nI (by omega) (by omega)
      have q := ih (j + 1) (by omega)
      rw [wY_run_126]
      dsimp only
      rw [e]
      refine br_f (nI_ge (by omega) (by omega)) ⟨t, t, nm_e ⟨t, t, nm_e ⟨t, ?_⟩⟩⟩
      by_cases z : rs j = 0
      · have f : dg_ct rs (j + 1) = dg_ct rs j := if_pos z
        rw [f] at q
        exact br_t z (nm_r (nI_1 j) q)
      · have f : dg_ct rs (j + 1) = dg_ct rs j + 1 := if_neg z
        rw [f] at q
        exact br_f z (nm_e (nm_r (nI_1 j) q))
  exact ⟨c + 1, key c 0 (Nat.zero_add c)⟩
theorem dg_yrun2 {P : Int32 → SY → Prop} (hw : w ≤ 4) (hW : ∀ j, j < w → vp_in (wa j) 20 ∧ vp_in (wv j) 20) (h : ∃ n : Nat, wY_run_126 P (nI c) (nI w) n 0 0 ki fi se th rs wa wv inp (dg_wd wd wa wv g w) g ws vl) : ∃ n : Nat, wY_run_78 P (nI c) (nI w) n 0 ki fi se th rs wa wv inp wd g ws vl := by
  have key : ∀ d j : Nat, j + d = w → wY_run_78 P (nI c) (nI w) (d + 1) (nI j) ki fi se th rs wa wv inp (dg_wd wd wa wv g j) g ws vl := by
    intro d
    induction d with
    | zero =>
      intro j hj
      obtain rfl : j = w := by omega
      exact br_t (nI_le (Nat.le_refl j) (by omega)) h
    | succ d ih =>
      intro j hj
      have e : (nI j).toNatClampNeg = j := nI_clamp (by omega)
      have t : vp_in (nI j) 4 := vp_in_nI (by omega) (by omega)
      have q := hW j (by omega)
      rw [wY_run_78]
      dsimp only
      rw [e]
      exact br_f (nI_ge (by omega) (by omega)) ⟨t, q.1, t, q.2, dg_in16 _, nm_e (nm_r (nI_1 j) (ih (j + 1) (by omega)))⟩
  exact ⟨w + 1, key w 0 (Nat.zero_add w)⟩
theorem dg_y41 {P : Int32 → SY → Prop} {J : Int32 → (Nat → Int32) → (Nat → Int32) → (Nat → Int32) → (Nat → Int32) → (Nat → Int32) → (Nat → Int32) → (Nat → Int32) → (Nat → Int32) → (Nat → Int32) → (Nat → Int32) → (Nat → Int32) → (Nat → Int32) → Prop} (hi : i < 20) (hk : ki i = 0 ∨ (ki i = 1 ∧ vp_in (fi i) 6) ∨ (ki i = 5 ∧ vp_in (fi i) 20) ∨ (ki i = 6 ∧ vp_in (fi i) 20) ∨ (ki i = 7 ∧ vp_in (fi i) 20)) (h : J (nI (i + 1)) ki fi se th rs wa wv inp wd (upd g i (dg_val inp wd ki fi se th g i)) ws vl) : wY_run_41 P J (nI i) (nI c) (nI w) ki fi se th rs wa wv inp wd g ws vl := by
  have e : (nI i).toNatClampNeg = i := nI_clamp (by omega)
  have t : vp_in (nI i) 20 := vp_in_nI hi (by omega)
  unfold wY_run_41 wY_run_46
  rw [e]
  exact br_f (by decide) (dg_yplain hi hk ⟨t, nm_e (nm_r (nI_1 i) h)⟩)
theorem dg_y45 {P : Int32 → SY → Prop} {J : Int32 → (Nat → Int32) → (Nat → Int32) → (Nat → Int32) → (Nat → Int32) → (Nat → Int32) → (Nat → Int32) → (Nat → Int32) → (Nat → Int32) → (Nat → Int32) → (Nat → Int32) → (Nat → Int32) → (Nat → Int32) → Prop} (hi : i < 20) (hk : (ki i = 2 ∧ vp_in (fi i) 20 ∧ vp_in (se i) 20) ∨ (ki i = 3 ∧ vp_in (fi i) 20 ∧ vp_in (se i) 20) ∨ (ki i = 4 ∧ vp_in (fi i) 20 ∧ vp_in (se i) 20) ∨ (ki i = 8 ∧ vp_in (fi i) 20 ∧ vp_in (se i) 20) ∨ (ki i = 9 ∧ vp_in (fi i) 20 ∧ vp_in (se i) 20 ∧ vp_in (th i) 20)) (h : J (nI (i + 1)) ki fi se th rs wa wv inp wd (upd g i (dg_val inp wd ki fi se th g i)) ws vl) : wY_run_45 P J (nI i) (nI c) (nI w) ki fi se th rs wa wv inp wd g ws vl := by
  have e : (nI i).toNatClampNeg = i := nI_clamp (by omega)
  have t : vp_in (nI i) 20 := vp_in_nI hi (by omega)
  unfold wY_run_45 wY_run_46
  rw [e]
  exact br_t rfl (dg_ycomp hi hk ⟨t, nm_e (nm_r (nI_1 i) h)⟩)
theorem dg_yrun1 {P : Int32 → SY → Prop} (hc : c ≤ 20) (hO : ∀ j, j < c → dg_OK ki fi se th j) (h : ∃ n : Nat, wY_run_78 P (nI c) (nI w) n 0 ki fi se th rs wa wv inp wd (dg_rv inp wd ki fi se th rv c) ws vl) : ∃ n : Nat, wY_run_2 P (nI c) (nI w) n 0 ki fi se th rs wa wv inp wd rv ws vl := by
  have key : ∀ d j : Nat, j + d = c → wY_run_2 P (nI c) (nI w) (d + 1) (nI j) ki fi se th rs wa wv inp wd (dg_rv inp wd ki fi se th rv j) ws vl := by
    intro d
    induction d with
    | zero =>
      intro j hj
      obtain rfl : j = c := by omega
      exact br_t (nI_le (Nat.le_refl j) (by omega)) h
    | succ d ih =>
      intro j hj
      have e : (nI j).toNatClampNeg = j := nI_clamp (by omega)
      have t : vp_in (nI j) 20 := vp_in_nI (by omega) (by omega)
      have hi : j < 20 := by omega
      have q := ih (j + 1) (by omega)
      rw [wY_run_2]
      dsimp only
      rw [e]
      refine br_f (nI_ge (by omega) (by omega)) ⟨t, ?_⟩
      rcases hO j (by omega) with k0 | ⟨k0, f0⟩ | ⟨k0, f0, s0⟩ | ⟨k0, f0, s0⟩ | ⟨k0, f0, s0⟩ | ⟨k0, f0⟩ | ⟨k0, f0⟩ | ⟨k0, f0⟩ | ⟨k0, f0, s0⟩ | ⟨k0, f0, s0, t0⟩
      · exact br_t (by rw [k0]; decide) (dg_y41 hi (Or.inl k0) q)
      · exact br_t (by rw [k0]; decide) (dg_y41 hi (Or.inr (Or.inl ⟨k0, f0⟩)) q)
      · exact br_f (by rw [k0]; decide) ⟨t, br_t (by rw [k0]; decide) (dg_y45 hi (Or.inl ⟨k0, f0, s0⟩) q)⟩
      · exact br_f (by rw [k0]; decide) ⟨t, br_t (by rw [k0]; decide) (dg_y45 hi (Or.inr (Or.inl ⟨k0, f0, s0⟩)) q)⟩
      · exact br_f (by rw [k0]; decide) ⟨t, br_t (by rw [k0]; decide) (dg_y45 hi (Or.inr (Or.inr (Or.inl ⟨k0, f0, s0⟩))) q)⟩
      · exact br_f (by rw [k0]; decide) ⟨t, br_f (by rw [k0]; decide) ⟨t, br_f (by rw [k0]; decide) (dg_y41 hi (Or.inr (Or.inr (Or.inl ⟨k0, f0⟩))) q)⟩⟩
      · exact br_f (by rw [k0]; decide) ⟨t, br_f (by rw [k0]; decide) ⟨t, br_f (by rw [k0]; decide) (dg_y41 hi (Or.inr (Or.inr (Or.inr (Or.inl ⟨k0, f0⟩)))) q)⟩⟩
      · exact br_f (by rw [k0]; decide) ⟨t, br_f (by rw [k0]; decide) ⟨t, br_f (by rw [k0]; decide) (dg_y41 hi (Or.inr (Or.inr (Or.inr (Or.inr (⟨k0, f0⟩))))) q)⟩⟩
      · exact br_f (by rw [k0]; decide) ⟨t, br_f (by rw [k0]; decide) ⟨t, br_t (by rw [k0]; decide) (dg_y45 hi (Or.inr (Or.inr (Or.inr (Or.inl ⟨k0, f0, s0⟩)))) q)⟩⟩
      · exact br_f (by rw [k0]; decide) ⟨t, br_f (by rw [k0]; decide) ⟨t, br_t (by rw [k0]; decide) (dg_y45 hi (Or.inr (Or.inr (Or.inr (Or.inr (⟨k0, f0, s0, t0⟩))))) q)⟩⟩
  exact ⟨c + 1, key c 0 (Nat.zero_add c)⟩
end
end
section
theorem i_vc_run {k : Nat} {u : SX} {v : SY} (I : i_Rel k u v) (hk : k + 4 ≤ 2048) : wpX_run (fun r u' => wpY_run (fun r' v' => r' = r ∧ i_Rel (k + 4) u' v') v) u := by
  obtain ⟨c, w, inp, wd, ki, fi, se, th, wa, wv, rs, ws, rv, hc, hw, hO, hW, rfl, rfl⟩ := I
  refine dg_xrun hc hw hO hW ?_
  refine dg_yrun1 hc hO (dg_yrun2 hw hW (dg_yrun3 hc ⟨rfl, ?_⟩))
  rw [dg_vlR]
  exact dg_rel hc hw hO hW
end
