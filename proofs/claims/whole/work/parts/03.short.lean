section
variable {c w : Nat} {inp wd ki fi se th wa wv rs ws rv : Nat → Int32}
theorem dg_wU {a b : Int32} (hc : c ≤ 20) (ha : dg_nod c a) (hb : dg_nod c b) (hW : ∀ j, j < w → vp_in (wa j) 20 ∧ vp_in (wv j) 20) : ∀ j, j < w + 1 → vp_in (upd wa w a j) 20 ∧ vp_in (upd wv w b j) 20 := by
  intro j hj
  by_cases e : j = w
  · subst e
    rw [dg_us, dg_us]
    exact ⟨dg_nin hc ha, dg_nin hc hb⟩
  · rw [dg_un e, dg_un e]
    exact hW j (by omega)
theorem i_vc_write {k : Nat} {u : SX} {v : SY} (I : i_Rel k u v) (hk : k + 4 ≤ 2048) (v1 : Int32) (v2 : Int32) : wpX_write (fun r u' => wpY_write (fun r' v' => r' = r ∧ i_Rel (k + 4) u' v') v v1 v2) u v1 v2 := by
  obtain ⟨c, w, inp, wd, ki, fi, se, th, wa, wv, rs, ws, rv, hc, hw, hO, hW, rfl, rfl⟩ := I
  have e : (nI w).toNatClampNeg = w := nI_clamp (by omega)
  unfold wpX_write wpY_write
  dsimp only
  rw [e, nI_1]
  by_cases h1 : dg_nod c v1
  · refine dg_x1 hc h1 (br_f (by decide) ?_)
    by_cases h2 : dg_nod c v2
    · refine dg_x1 hc h2 (br_f (by decide) ?_)
      by_cases h4 : w < 4
      · have i : vp_in (nI w) 4 := vp_in_nI h4 (by omega)
        have l : nI w < 4 := by rw [← dg_4]; exact nI_lt h4 (by omega)
        have l' : ¬ nI w = 4 := by rw [← dg_4, nI_eq (by omega) (by omega)]; omega
        refine br_t l ⟨i, nm_e ⟨i, nm_e (nm_e ?_)⟩⟩
        refine dg_y1 hc h1 (br_f (by decide) (dg_y1 hc h2 (br_f (by decide) (br_f l' ⟨i, nm_e ⟨i, nm_e (nm_e ⟨nI_pred w, ?_⟩)⟩⟩))))
        exact ⟨c, w + 1, inp, wd, ki, fi, se, th, upd wa w v1, upd wv w v2, rs, ws, rv, hc, by omega, hO, dg_wU hc h1 h2 hW, rfl, rfl⟩
      · have l : ¬ nI w < 4 := by rw [← dg_4]; exact nI_nlt (by omega) (by omega)
        have l' : nI w = 4 := by rw [← dg_4, nI_eq (by omega) (by omega)]; omega
        exact br_f l (dg_y1 hc h1 (br_f (by decide) (dg_y1 hc h2 (br_f (by decide) (br_t l' ⟨rfl, dg_rel hc hw hO hW⟩)))))
    · refine dg_x0 hc h2 (br_t rfl ?_)
      exact dg_y1 hc h1 (br_f (by decide) (dg_y0 hc h2 (br_t rfl ⟨rfl, dg_rel hc hw hO hW⟩)))
  · refine dg_x0 hc h1 (br_t rfl ?_)
    exact dg_y0 hc h1 (br_t rfl ⟨rfl, dg_rel hc hw hO hW⟩)
theorem i_vc_result {k : Nat} {u : SX} {v : SY} (I : i_Rel k u v) (hk : k + 4 ≤ 2048) (v1 : Int32) (v2 : Int32) : wpX_result (fun r u' => wpY_result (fun r' v' => r' = r ∧ i_Rel (k + 4) u' v') v v1 v2) u v1 v2 := by
  obtain ⟨c, w, inp, wd, ki, fi, se, th, wa, wv, rs, ws, rv, hc, hw, hO, hW, rfl, rfl⟩ := I
  unfold wpX_result wpY_result
  dsimp only
  by_cases hn : dg_nod c v1
  · have i : vp_in v1 20 := dg_nin hc hn
    by_cases z : rs v1.toNatClampNeg = 0
    · by_cases o : v2 = 0
      · exact dg_x1 hc hn (br_f (by decide) ⟨i, br_t z (br_t o ⟨i, nm_e (dg_y1 hc hn (br_f (by decide) ⟨i, br_t z (br_t o ⟨i, nm_e ⟨rfl, dg_rel hc hw hO hW⟩⟩)⟩))⟩)⟩)
      · exact dg_x1 hc hn (br_f (by decide) ⟨i, br_t z (br_f o ⟨i, nm_e (dg_y1 hc hn (br_f (by decide) ⟨i, br_t z (br_f o ⟨i, nm_e ⟨rfl, dg_rel hc hw hO hW⟩⟩)⟩))⟩)⟩)
    · by_cases o : v2 = 0
      · exact dg_x1 hc hn (br_f (by decide) ⟨i, br_f z (br_t o ⟨i, nm_e (dg_y1 hc hn (br_f (by decide) ⟨i, br_f z (br_t o ⟨i, nm_e ⟨rfl, dg_rel hc hw hO hW⟩⟩)⟩))⟩)⟩)
      · exact dg_x1 hc hn (br_f (by decide) ⟨i, br_f z (br_f o ⟨i, nm_e (dg_y1 hc hn (br_f (by decide) ⟨i, br_f z (br_f o ⟨i, nm_e ⟨rfl, dg_rel hc hw hO hW⟩⟩)⟩))⟩)⟩)
  · exact dg_x0 hc hn (br_t rfl (dg_y0 hc hn (br_t rfl ⟨rfl, dg_rel hc hw hO hW⟩)))
theorem i_vc_nodes {k : Nat} {u : SX} {v : SY} (I : i_Rel k u v) (hk : k + 4 ≤ 2048) : wpX_nodes (fun r => wpY_nodes (fun r' => r' = r ∧ i_Rel (k + 4) u v) v) u := by
  obtain ⟨c, w, inp, wd, ki, fi, se, th, wa, wv, rs, ws, rv, hc, hw, hO, hW, rfl, rfl⟩ := I
  exact ⟨rfl, dg_rel hc hw hO hW⟩
theorem i_vc_clear {k : Nat} {u : SX} {v : SY} (I : i_Rel k u v) (hk : k + 4 ≤ 2048) : wpX_clear (fun u' => wpY_clear (fun v' => i_Rel (k + 4) u' v') v) u := by
  obtain ⟨c, w, inp, wd, ki, fi, se, th, wa, wv, rs, ws, rv, hc, hw, hO, hW, rfl, rfl⟩ := I
  exact ⟨0, 0, inp, wd, ki, fi, se, th, wa, wv, rs, ws, rv, by omega, by omega, fun j h => absurd h (Nat.not_lt_zero j), fun j h => absurd h (Nat.not_lt_zero j), rfl, rfl⟩
theorem i_vc_setInput {k : Nat} {u : SX} {v : SY} (I : i_Rel k u v) (hk : k + 4 ≤ 2048) (v1 : Int32) (v2 : Int32) : wpX_setInput (fun r u' => wpY_setInput (fun r' v' => r' = r ∧ i_Rel (k + 4) u' v') v v1 v2) u v1 v2 := by
  obtain ⟨c, w, inp, wd, ki, fi, se, th, wa, wv, rs, ws, rv, hc, hw, hO, hW, rfl, rfl⟩ := I
  unfold wpX_setInput wpY_setInput
  dsimp only
  by_cases h0 : v1 < 0
  · exact br_t h0 (br_t rfl (br_t h0 ⟨rfl, dg_rel hc hw hO hW⟩))
  · rcases dg_l6 h0 with ⟨h1, h2⟩ | ⟨h1, h2, h3⟩
    · exact br_f h0 (br_t h1 (br_t rfl (br_f h0 (br_f h2 ⟨rfl, dg_rel hc hw hO hW⟩))))
    · exact br_f h0 (br_f h1 (br_f (by decide) ⟨h3, nm_e (br_f h0 (br_t h2 ⟨h3, nm_e ⟨rfl, dg_rel hc hw hO hW⟩⟩))⟩))
theorem i_vc_setWord {k : Nat} {u : SX} {v : SY} (I : i_Rel k u v) (hk : k + 4 ≤ 2048) (v1 : Int32) (v2 : Int32) : wpX_setWord (fun r u' => wpY_setWord (fun r' v' => r' = r ∧ i_Rel (k + 4) u' v') v v1 v2) u v1 v2 := by
  obtain ⟨c, w, inp, wd, ki, fi, se, th, wa, wv, rs, ws, rv, hc, hw, hO, hW, rfl, rfl⟩ := I
  unfold wpX_setWord wpY_setWord
  dsimp only
  by_cases h0 : v1 < 0
  · exact br_t h0 (br_t rfl (br_t h0 ⟨rfl, dg_rel hc hw hO hW⟩))
  · rcases dg_l16 h0 with ⟨h1, h2⟩ | ⟨h1, h2, h3⟩
    · exact br_f h0 (br_t h1 (br_t rfl (br_f h0 (br_f h2 ⟨rfl, dg_rel hc hw hO hW⟩))))
    · exact br_f h0 (br_f h1 (br_f (by decide) ⟨h3, nm_e (br_f h0 (br_t h2 ⟨h3, nm_e ⟨rfl, dg_rel hc hw hO hW⟩⟩))⟩))
theorem i_vc_word {k : Nat} {u : SX} {v : SY} (I : i_Rel k u v) (hk : k + 4 ≤ 2048) (v1 : Int32) : wpX_word (fun r => wpY_word (fun r' => r' = r ∧ i_Rel (k + 4) u v) v v1) u v1 := by
  obtain ⟨c, w, inp, wd, ki, fi, se, th, wa, wv, rs, ws, rv, hc, hw, hO, hW, rfl, rfl⟩ := I
  unfold wpX_word wpY_word
  dsimp only
  by_cases h0 : v1 < 0
  · exact br_t h0 (br_t rfl (br_t h0 ⟨rfl, dg_rel hc hw hO hW⟩))
  · rcases dg_l16 h0 with ⟨h1, h2⟩ | ⟨h1, h2, h3⟩
    · exact br_f h0 (br_t h1 (br_t rfl (br_f h0 (br_f h2 ⟨rfl, dg_rel hc hw hO hW⟩))))
    · exact br_f h0 (br_f h1 (br_f (by decide) ⟨h3, br_f h0 (br_t h2 ⟨h3, ⟨rfl, dg_rel hc hw hO hW⟩⟩)⟩))
theorem i_vc_known {k : Nat} {u : SX} {v : SY} (I : i_Rel k u v) (hk : k + 4 ≤ 2048) (v1 : Int32) : wpX_known (fun r => wpY_known (fun r' => r' = r ∧ i_Rel (k + 4) u v) v v1) u v1 := by
  obtain ⟨c, w, inp, wd, ki, fi, se, th, wa, wv, rs, ws, rv, hc, hw, hO, hW, rfl, rfl⟩ := I
  unfold wpX_known wpY_known
  dsimp only
  by_cases hn : dg_nod c v1
  · have i : vp_in v1 20 := dg_nin hc hn
    by_cases z : ws v1.toNatClampNeg = 0
    · exact dg_x1 hc hn (br_f (by decide) ⟨i, br_t z (dg_y1 hc hn (br_f (by decide) ⟨i, br_t z ⟨rfl, dg_rel hc hw hO hW⟩⟩))⟩)
    · exact dg_x1 hc hn (br_f (by decide) ⟨i, br_f z (dg_y1 hc hn (br_f (by decide) ⟨i, br_f z ⟨rfl, dg_rel hc hw hO hW⟩⟩))⟩)
  · exact dg_x0 hc hn (br_t rfl (dg_y0 hc hn (br_t rfl ⟨rfl, dg_rel hc hw hO hW⟩)))
theorem i_vc_value {k : Nat} {u : SX} {v : SY} (I : i_Rel k u v) (hk : k + 4 ≤ 2048) (v1 : Int32) : wpX_value (fun r => wpY_value (fun r' => r' = r ∧ i_Rel (k + 4) u v) v v1) u v1 := by
  obtain ⟨c, w, inp, wd, ki, fi, se, th, wa, wv, rs, ws, rv, hc, hw, hO, hW, rfl, rfl⟩ := I
  unfold wpX_value wpX_known wpY_value
  dsimp only
  by_cases hn : dg_nod c v1
  · have i : vp_in v1 20 := dg_nin hc hn
    by_cases z : ws v1.toNatClampNeg = 0
    · exact dg_x1 hc hn (br_f (by decide) ⟨i, br_t z (br_t rfl (dg_y1 hc hn (br_f (by decide) ⟨i, br_t z ⟨rfl, dg_rel hc hw hO hW⟩⟩)))⟩)
    · exact dg_x1 hc hn (br_f (by decide) ⟨i, br_f z (br_f (by decide) ⟨i, dg_y1 hc hn (br_f (by decide) ⟨i, br_f z ⟨i, ⟨rfl, dg_rel hc hw hO hW⟩⟩⟩)⟩)⟩)
  · exact dg_x0 hc hn (br_t rfl (br_t rfl (dg_y0 hc hn (br_t rfl ⟨rfl, dg_rel hc hw hO hW⟩))))
theorem dg_scan (hc : c ≤ 20) : ∀ (d j : Nat) (s : Int32), j + d = c → ∃ r : Int32, (∀ P : Int32 → Prop, P r → wX_digest_4 P (nI c) (nI w) inp wd ki fi se th wa wv rs ws rv (d + 1) s (nI j)) ∧ (∀ P : Int32 → Prop, P r → wY_digest_4 P (nI c) (nI w) ki fi se th rs wa wv inp wd rv ws rv (d + 1) s (nI j)) := by
  intro d
  induction d with
  | zero =>
    intro j s hj
    have h : nI c ≤ nI j := nI_le (by omega) (by omega)
    exact ⟨s, fun _ hp => br_t h hp, fun _ hp => br_t h hp⟩
  | succ d ih =>
    intro j s hj
    have h : ¬ nI c ≤ nI j := nI_ge (by omega) (by omega)
    have hi : vp_in (nI j) 20 := vp_in_nI (by omega) (by omega)
    by_cases z : ws (nI j).toNatClampNeg = 0
    · obtain ⟨r, hX, hY⟩ := ih (j + 1) s (by omega)
      exact ⟨r, fun P hp => br_f h ⟨hi, br_t z (nm_r (nI_1 j) (hX P hp))⟩, fun P hp => br_f h ⟨hi, br_t z (nm_r (nI_1 j) (hY P hp))⟩⟩
    · obtain ⟨r, hX, hY⟩ := ih (j + 1) (s + ((nI j + 1) * (rv (nI j).toNatClampNeg))) (by omega)
      exact ⟨r, fun P hp => br_f h ⟨hi, br_f z ⟨hi, nm_e (nm_r (nI_1 j) (hX P hp))⟩⟩, fun P hp => br_f h ⟨hi, br_f z ⟨hi, nm_e (nm_r (nI_1 j) (hY P hp))⟩⟩⟩
theorem i_vc_digest {k : Nat} {u : SX} {v : SY} (I : i_Rel k u v) (hk : k + 4 ≤ 2048) : wpX_digest (fun r => wpY_digest (fun r' => r' = r ∧ i_Rel (k + 4) u v) v) u := by
  obtain ⟨c, w, inp, wd, ki, fi, se, th, wa, wv, rs, ws, rv, hc, hw, hO, hW, rfl, rfl⟩ := I
  obtain ⟨r, hX, hY⟩ := dg_scan (w := w) (inp := inp) (wd := wd) (ki := ki) (fi := fi) (se := se) (th := th) (wa := wa) (wv := wv) (rs := rs) (ws := ws) (rv := rv) hc c 0 0 (Nat.zero_add c)
  exact ⟨c + 1, hX _ ⟨c + 1, hY _ ⟨rfl, dg_rel hc hw hO hW⟩⟩⟩
end
