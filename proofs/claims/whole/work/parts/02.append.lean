section
variable {c w : Nat} {inp wd ki fi se th wa wv rs ws rv : Nat → Int32}
theorem dg_xone {P : Int32 → SX → Prop} {kd a b : Int32} (hc : c ≤ 20) (hb : ¬ dg_nod c a → P (-1) (nI c, nI w, inp, wd, ki, fi, se, th, wa, wv, rs, ws, rv)) (hf : dg_nod c a → ¬ c < 20 → P (-2) (nI c, nI w, inp, wd, ki, fi, se, th, wa, wv, rs, ws, rv)) (ho : dg_nod c a → c < 20 → P (nI c) (nI (c + 1), nI w, inp, wd, upd ki c kd, upd fi c a, upd se c b, upd th c 0, wa, wv, upd rs c (vp_nar .boolean 0), upd ws c (vp_nar .boolean 0), rv)) : wpX_appendOnOne P (nI c, nI w, inp, wd, ki, fi, se, th, wa, wv, rs, ws, rv) kd a b := by
  unfold wpX_appendOnOne
  dsimp only
  by_cases hn : dg_nod c a
  · refine dg_x1 hc hn (br_f (by decide) ?_)
    by_cases h2 : c < 20
    · exact dg_xapp h2 (ho hn h2)
    · exact dg_xful h2 hc (hf hn h2)
  · exact dg_x0 hc hn (br_t rfl (hb hn))
theorem dg_xtwo {P : Int32 → SX → Prop} {kd a b : Int32} (hc : c ≤ 20) (hb : ¬ (dg_nod c a ∧ dg_nod c b) → P (-1) (nI c, nI w, inp, wd, ki, fi, se, th, wa, wv, rs, ws, rv)) (hf : dg_nod c a ∧ dg_nod c b → ¬ c < 20 → P (-2) (nI c, nI w, inp, wd, ki, fi, se, th, wa, wv, rs, ws, rv)) (ho : dg_nod c a ∧ dg_nod c b → c < 20 → P (nI c) (nI (c + 1), nI w, inp, wd, upd ki c kd, upd fi c a, upd se c b, upd th c 0, wa, wv, upd rs c (vp_nar .boolean 0), upd ws c (vp_nar .boolean 0), rv)) : wpX_appendOnTwo P (nI c, nI w, inp, wd, ki, fi, se, th, wa, wv, rs, ws, rv) kd a b := by
  unfold wpX_appendOnTwo
  dsimp only
  by_cases hn : dg_nod c a
  · refine dg_x1 hc hn (br_f (by decide) ?_)
    by_cases hm : dg_nod c b
    · refine dg_x1 hc hm (br_f (by decide) ?_)
      by_cases h2 : c < 20
      · exact dg_xapp h2 (ho ⟨hn, hm⟩ h2)
      · exact dg_xful h2 hc (hf ⟨hn, hm⟩ h2)
    · exact dg_x0 hc hm (br_t rfl (hb fun z => hm z.2))
  · exact dg_x0 hc hn (br_t rfl (hb fun z => hn z.1))
theorem dg_ytwo {P : Int32 → SY → Prop} {kd a b : Int32} (hc : c ≤ 20) (hb : ¬ (dg_nod c a ∧ dg_nod c b) → P (-1) (nI c, nI w, ki, fi, se, th, rs, wa, wv, inp, wd, rv, ws, rv)) (hf : dg_nod c a ∧ dg_nod c b → ¬ c < 20 → P (-2) (nI c, nI w, ki, fi, se, th, rs, wa, wv, inp, wd, rv, ws, rv)) (ho : dg_nod c a ∧ dg_nod c b → c < 20 → P (nI c) (nI (c + 1), nI w, upd ki c kd, upd fi c a, upd se c b, upd th c 0, upd rs c (vp_nar .boolean 0), wa, wv, inp, wd, rv, upd ws c (vp_nar .boolean 0), rv)) : wpY_appendPair P (nI c, nI w, ki, fi, se, th, rs, wa, wv, inp, wd, rv, ws, rv) kd a b := by
  unfold wpY_appendPair
  dsimp only
  by_cases hn : dg_nod c a
  · refine dg_y1 hc hn (br_f (by decide) ?_)
    by_cases hm : dg_nod c b
    · refine dg_y1 hc hm (br_f (by decide) ?_)
      by_cases h2 : c < 20
      · exact dg_yapp h2 (ho ⟨hn, hm⟩ h2)
      · exact dg_yful h2 hc (hf ⟨hn, hm⟩ h2)
    · exact dg_y0 hc hm (br_t rfl (hb fun z => hm z.2))
  · exact dg_y0 hc hn (br_t rfl (hb fun z => hn z.1))
theorem i_vc_number {k : Nat} {u : SX} {v : SY} (I : i_Rel k u v) (hk : k + 4 ≤ 2048) (v1 : Int32) : wpX_number (fun r u' => wpY_number (fun r' v' => r' = r ∧ i_Rel (k + 4) u' v') v v1) u v1 := by
  obtain ⟨c, w, inp, wd, ki, fi, se, th, wa, wv, rs, ws, rv, hc, hw, hO, hW, rfl, rfl⟩ := I
  unfold wpX_number wpY_number
  dsimp only
  by_cases h2 : c < 20
  · exact dg_xapp h2 (dg_yapp h2 ⟨rfl, dg_relA h2 hw hO hW (Or.inl rfl)⟩)
  · exact dg_xful h2 hc (dg_yful h2 hc ⟨rfl, dg_rel hc hw hO hW⟩)
theorem i_vc_add {k : Nat} {u : SX} {v : SY} (I : i_Rel k u v) (hk : k + 4 ≤ 2048) (v1 : Int32) (v2 : Int32) : wpX_add (fun r u' => wpY_add (fun r' v' => r' = r ∧ i_Rel (k + 4) u' v') v v1 v2) u v1 v2 := by
  obtain ⟨c, w, inp, wd, ki, fi, se, th, wa, wv, rs, ws, rv, hc, hw, hO, hW, rfl, rfl⟩ := I
  unfold wpX_add wpY_add
  dsimp only
  have no : ∀ {A B : Prop}, A → ¬ A → B := fun a b => absurd a b
  refine dg_xtwo hc (fun hn => ?_) (fun hn h2 => ?_) (fun hn h2 => ?_)
  · exact dg_ytwo hc (fun _ => ⟨rfl, dg_rel hc hw hO hW⟩) (fun z _ => absurd z hn) (fun z _ => absurd z hn)
  · exact dg_ytwo hc (fun z => absurd hn z) (fun _ _ => ⟨rfl, dg_rel hc hw hO hW⟩) (fun _ z => absurd z h2)
  · exact dg_ytwo hc (fun z => absurd hn z) (fun _ z => absurd h2 z) (fun _ _ => ⟨rfl, dg_relA h2 hw hO hW (Or.inr (Or.inr (Or.inl (⟨rfl, dg_nin hc hn.1, dg_nin hc hn.2⟩))))⟩)
theorem i_vc_sub {k : Nat} {u : SX} {v : SY} (I : i_Rel k u v) (hk : k + 4 ≤ 2048) (v1 : Int32) (v2 : Int32) : wpX_sub (fun r u' => wpY_sub (fun r' v' => r' = r ∧ i_Rel (k + 4) u' v') v v1 v2) u v1 v2 := by
  obtain ⟨c, w, inp, wd, ki, fi, se, th, wa, wv, rs, ws, rv, hc, hw, hO, hW, rfl, rfl⟩ := I
  unfold wpX_sub wpY_sub
  dsimp only
  have no : ∀ {A B : Prop}, A → ¬ A → B := fun a b => absurd a b
  refine dg_xtwo hc (fun hn => ?_) (fun hn h2 => ?_) (fun hn h2 => ?_)
  · exact dg_ytwo hc (fun _ => ⟨rfl, dg_rel hc hw hO hW⟩) (fun z _ => absurd z hn) (fun z _ => absurd z hn)
  · exact dg_ytwo hc (fun z => absurd hn z) (fun _ _ => ⟨rfl, dg_rel hc hw hO hW⟩) (fun _ z => absurd z h2)
  · exact dg_ytwo hc (fun z => absurd hn z) (fun _ z => absurd h2 z) (fun _ _ => ⟨rfl, dg_relA h2 hw hO hW (Or.inr (Or.inr (Or.inr (Or.inl (⟨rfl, dg_nin hc hn.1, dg_nin hc hn.2⟩)))))⟩)
theorem i_vc_mul {k : Nat} {u : SX} {v : SY} (I : i_Rel k u v) (hk : k + 4 ≤ 2048) (v1 : Int32) (v2 : Int32) : wpX_mul (fun r u' => wpY_mul (fun r' v' => r' = r ∧ i_Rel (k + 4) u' v') v v1 v2) u v1 v2 := by
  obtain ⟨c, w, inp, wd, ki, fi, se, th, wa, wv, rs, ws, rv, hc, hw, hO, hW, rfl, rfl⟩ := I
  unfold wpX_mul wpY_mul
  dsimp only
  have no : ∀ {A B : Prop}, A → ¬ A → B := fun a b => absurd a b
  refine dg_xtwo hc (fun hn => ?_) (fun hn h2 => ?_) (fun hn h2 => ?_)
  · exact dg_ytwo hc (fun _ => ⟨rfl, dg_rel hc hw hO hW⟩) (fun z _ => absurd z hn) (fun z _ => absurd z hn)
  · exact dg_ytwo hc (fun z => absurd hn z) (fun _ _ => ⟨rfl, dg_rel hc hw hO hW⟩) (fun _ z => absurd z h2)
  · exact dg_ytwo hc (fun z => absurd hn z) (fun _ z => absurd h2 z) (fun _ _ => ⟨rfl, dg_relA h2 hw hO hW (Or.inr (Or.inr (Or.inr (Or.inr (Or.inl (⟨rfl, dg_nin hc hn.1, dg_nin hc hn.2⟩))))))⟩)
theorem i_vc_less {k : Nat} {u : SX} {v : SY} (I : i_Rel k u v) (hk : k + 4 ≤ 2048) (v1 : Int32) (v2 : Int32) : wpX_less (fun r u' => wpY_less (fun r' v' => r' = r ∧ i_Rel (k + 4) u' v') v v1 v2) u v1 v2 := by
  obtain ⟨c, w, inp, wd, ki, fi, se, th, wa, wv, rs, ws, rv, hc, hw, hO, hW, rfl, rfl⟩ := I
  unfold wpX_less wpY_less
  dsimp only
  have no : ∀ {A B : Prop}, A → ¬ A → B := fun a b => absurd a b
  refine dg_xtwo hc (fun hn => ?_) (fun hn h2 => ?_) (fun hn h2 => ?_)
  · exact dg_ytwo hc (fun _ => ⟨rfl, dg_rel hc hw hO hW⟩) (fun z _ => absurd z hn) (fun z _ => absurd z hn)
  · exact dg_ytwo hc (fun z => absurd hn z) (fun _ _ => ⟨rfl, dg_rel hc hw hO hW⟩) (fun _ z => absurd z h2)
  · exact dg_ytwo hc (fun z => absurd hn z) (fun _ z => absurd h2 z) (fun _ _ => ⟨rfl, dg_relA h2 hw hO hW (Or.inr (Or.inr (Or.inr (Or.inr (Or.inr (Or.inr (Or.inr (Or.inr (Or.inl (⟨rfl, dg_nin hc hn.1, dg_nin hc hn.2⟩))))))))))⟩)
theorem i_vc_neg {k : Nat} {u : SX} {v : SY} (I : i_Rel k u v) (hk : k + 4 ≤ 2048) (v1 : Int32) : wpX_neg (fun r u' => wpY_neg (fun r' v' => r' = r ∧ i_Rel (k + 4) u' v') v v1) u v1 := by
  obtain ⟨c, w, inp, wd, ki, fi, se, th, wa, wv, rs, ws, rv, hc, hw, hO, hW, rfl, rfl⟩ := I
  unfold wpX_neg wpY_neg
  dsimp only
  refine dg_xone hc (fun hn => ?_) (fun hn h2 => ?_) (fun hn h2 => ?_)
  · exact dg_y0 hc hn (br_t rfl ⟨rfl, dg_rel hc hw hO hW⟩)
  · exact dg_y1 hc hn (br_f (by decide) (dg_yful h2 hc ⟨rfl, dg_rel hc hw hO hW⟩))
  · exact dg_y1 hc hn (br_f (by decide) (dg_yapp h2 ⟨rfl, dg_relA h2 hw hO hW (Or.inr (Or.inr (Or.inr (Or.inr (Or.inr (Or.inl (⟨rfl, dg_nin hc hn⟩)))))))⟩))
theorem i_vc_fetch {k : Nat} {u : SX} {v : SY} (I : i_Rel k u v) (hk : k + 4 ≤ 2048) (v1 : Int32) : wpX_fetch (fun r u' => wpY_fetch (fun r' v' => r' = r ∧ i_Rel (k + 4) u' v') v v1) u v1 := by
  obtain ⟨c, w, inp, wd, ki, fi, se, th, wa, wv, rs, ws, rv, hc, hw, hO, hW, rfl, rfl⟩ := I
  unfold wpX_fetch wpY_fetch
  dsimp only
  refine dg_xone hc (fun hn => ?_) (fun hn h2 => ?_) (fun hn h2 => ?_)
  · exact dg_y0 hc hn (br_t rfl ⟨rfl, dg_rel hc hw hO hW⟩)
  · exact dg_y1 hc hn (br_f (by decide) (dg_yful h2 hc ⟨rfl, dg_rel hc hw hO hW⟩))
  · exact dg_y1 hc hn (br_f (by decide) (dg_yapp h2 ⟨rfl, dg_relA h2 hw hO hW (Or.inr (Or.inr (Or.inr (Or.inr (Or.inr (Or.inr (Or.inr (Or.inl (⟨rfl, dg_nin hc hn⟩)))))))))⟩))
theorem i_vc_shift {k : Nat} {u : SX} {v : SY} (I : i_Rel k u v) (hk : k + 4 ≤ 2048) (v1 : Int32) (v2 : Int32) : wpX_shift (fun r u' => wpY_shift (fun r' v' => r' = r ∧ i_Rel (k + 4) u' v') v v1 v2) u v1 v2 := by
  obtain ⟨c, w, inp, wd, ki, fi, se, th, wa, wv, rs, ws, rv, hc, hw, hO, hW, rfl, rfl⟩ := I
  unfold wpX_shift wpY_shift
  dsimp only
  by_cases h0 : v2 < 0
  · refine br_t h0 ?_
    by_cases hn : dg_nod c v1
    · exact dg_y1 hc hn (br_f (by decide) (br_t h0 ⟨rfl, dg_rel hc hw hO hW⟩))
    · exact dg_y0 hc hn (br_t rfl ⟨rfl, dg_rel hc hw hO hW⟩)
  · by_cases h1 : v2 ≤ 31
    · have h3 : ¬ (31 : Int32) < v2 := Int32.not_lt.mpr h1
      refine br_f h0 (br_t h1 ?_)
      refine dg_xone hc (fun hn => ?_) (fun hn h2 => ?_) (fun hn h2 => ?_)
      · exact dg_y0 hc hn (br_t rfl ⟨rfl, dg_rel hc hw hO hW⟩)
      · exact dg_y1 hc hn (br_f (by decide) (br_f h0 (br_f h3 (dg_yful h2 hc ⟨rfl, dg_rel hc hw hO hW⟩))))
      · exact dg_y1 hc hn (br_f (by decide) (br_f h0 (br_f h3 (dg_yapp h2 ⟨rfl, dg_relA h2 hw hO hW (Or.inr (Or.inr (Or.inr (Or.inr (Or.inr (Or.inr (Or.inl (⟨rfl, dg_nin hc hn⟩))))))))⟩))))
    · have h3 : (31 : Int32) < v2 := Int32.not_le.mp h1
      refine br_f h0 (br_f h1 ?_)
      by_cases hn : dg_nod c v1
      · exact dg_y1 hc hn (br_f (by decide) (br_f h0 (br_t h3 ⟨rfl, dg_rel hc hw hO hW⟩)))
      · exact dg_y0 hc hn (br_t rfl ⟨rfl, dg_rel hc hw hO hW⟩)
theorem i_vc_pick {k : Nat} {u : SX} {v : SY} (I : i_Rel k u v) (hk : k + 4 ≤ 2048) (v1 : Int32) (v2 : Int32) (v3 : Int32) : wpX_pick (fun r u' => wpY_pick (fun r' v' => r' = r ∧ i_Rel (k + 4) u' v') v v1 v2 v3) u v1 v2 v3 := by
  obtain ⟨c, w, inp, wd, ki, fi, se, th, wa, wv, rs, ws, rv, hc, hw, hO, hW, rfl, rfl⟩ := I
  unfold wpX_pick wpY_pick
  dsimp only
  by_cases h1 : dg_nod c v1
  · refine dg_x1 hc h1 (br_f (by decide) ?_)
    by_cases h2 : dg_nod c v2
    · refine dg_x1 hc h2 (br_f (by decide) ?_)
      by_cases h3 : dg_nod c v3
      · refine dg_x1 hc h3 (br_f (by decide) ?_)
        by_cases h4 : c < 20
        · refine dg_xapp h4 ?_
          exact dg_y1 hc h1 (br_f (by decide) (dg_y1 hc h2 (br_f (by decide) (dg_y1 hc h3 (br_f (by decide) (dg_yapp h4 ⟨rfl, dg_relA h4 hw hO hW (Or.inr (Or.inr (Or.inr (Or.inr (Or.inr (Or.inr (Or.inr (Or.inr (Or.inr (⟨rfl, dg_nin hc h1, dg_nin hc h2, dg_nin hc h3⟩))))))))))⟩))))))
        · refine dg_xful h4 hc ?_
          exact dg_y1 hc h1 (br_f (by decide) (dg_y1 hc h2 (br_f (by decide) (dg_y1 hc h3 (br_f (by decide) (dg_yful h4 hc ⟨rfl, dg_rel hc hw hO hW⟩))))))
      · refine dg_x0 hc h3 (br_t rfl ?_)
        exact dg_y1 hc h1 (br_f (by decide) (dg_y1 hc h2 (br_f (by decide) (dg_y0 hc h3 (br_t rfl ⟨rfl, dg_rel hc hw hO hW⟩)))))
    · refine dg_x0 hc h2 (br_t rfl ?_)
      exact dg_y1 hc h1 (br_f (by decide) (dg_y0 hc h2 (br_t rfl ⟨rfl, dg_rel hc hw hO hW⟩)))
  · refine dg_x0 hc h1 (br_t rfl ?_)
    exact dg_y0 hc h1 (br_t rfl ⟨rfl, dg_rel hc hw hO hW⟩)
/-- X asks L ≤ n, Y asks n ≤ M, where L = M + 1 -/
theorem dg_lit {n : Int32} (h0 : ¬ n < 0) (L M : Nat) (hL : L = M + 1) (hM : L < 2 ^ 31) : (nI L ≤ n ∧ ¬ n ≤ nI M) ∨ (¬ nI L ≤ n ∧ n ≤ nI M ∧ vp_in n L) := by
  obtain ⟨j, hj, rfl⟩ := nI_of h0
  by_cases h : L ≤ j
  · exact Or.inl ⟨nI_le h hj, nI_ge (by omega) hj⟩
  · exact Or.inr ⟨nI_ge (by omega) hM, nI_le (by omega) (by omega), vp_in_nI (by omega) hM⟩
theorem dg_l6 {n : Int32} (h0 : ¬ n < 0) : ((6 : Int32) ≤ n ∧ ¬ n ≤ 5) ∨ (¬ (6 : Int32) ≤ n ∧ n ≤ 5 ∧ vp_in n 6) := dg_lit h0 6 5 rfl (by decide)
theorem dg_l16 {n : Int32} (h0 : ¬ n < 0) : ((16 : Int32) ≤ n ∧ ¬ n ≤ 15) ∨ (¬ (16 : Int32) ≤ n ∧ n ≤ 15 ∧ vp_in n 16) := dg_lit h0 16 15 rfl (by decide)
theorem i_vc_input {k : Nat} {u : SX} {v : SY} (I : i_Rel k u v) (hk : k + 4 ≤ 2048) (v1 : Int32) : wpX_input (fun r u' => wpY_input (fun r' v' => r' = r ∧ i_Rel (k + 4) u' v') v v1) u v1 := by
  obtain ⟨c, w, inp, wd, ki, fi, se, th, wa, wv, rs, ws, rv, hc, hw, hO, hW, rfl, rfl⟩ := I
  unfold wpX_input wpY_input
  dsimp only
  by_cases h0 : v1 < 0
  · exact br_t h0 (br_t rfl (br_t h0 ⟨rfl, dg_rel hc hw hO hW⟩))
  · rcases dg_l6 h0 with ⟨h1, h2⟩ | ⟨h1, h2, h3⟩
    · exact br_f h0 (br_t h1 (br_t rfl (br_f h0 (br_f h2 ⟨rfl, dg_rel hc hw hO hW⟩))))
    · refine br_f h0 (br_f h1 (br_f (by decide) ?_))
      by_cases h4 : c < 20
      · exact dg_xapp h4 (br_f h0 (br_t h2 (dg_yapp h4 ⟨rfl, dg_relA h4 hw hO hW (Or.inr (Or.inl (⟨rfl, h3⟩)))⟩)))
      · exact dg_xful h4 hc (br_f h0 (br_t h2 (dg_yful h4 hc ⟨rfl, dg_rel hc hw hO hW⟩)))
end
