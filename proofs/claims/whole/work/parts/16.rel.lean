/-! the relation, and the methods that only read -/
def ni_I (C H D O F U s : Nat) (L : Nat → Nat) (cs ep yep : Int32) (fk pn pi ln pg so he fr rc sn si sf : Nat → Int32) : Prop := (8 ≤ C ∧ C ≤ 32 ∧ H ≤ 32 ∧ 1 ≤ D ∧ D ≤ 8 ∧ s < 4) ∧ nv_de fk pn pi ∧ nv_ln L C ln ∧ nv_pg L pg ∧ nv_M O F U H D he fr ∧ (cs = 30 ∨ ((cs = 31 ∨ cs = 32) ∧ 1 ≤ F ∧ nr_S 4 L so rc sn si sf)) ∧ (cs = 32 → yep = ep)
def i_Rel (_ : Nat) (u : SX) (v : SY) : Prop := ∃ (C H D O F U s : Nat) (L : Nat → Nat) (cs ec ep ms yec yep ych : Int32) (fk pn pi ln pg so ed he fr ou rc sn si sf tn ti tf : Nat → Int32), u = ((nI C), (nI H), (nI D), (nI s), cs, ec, ep, ms, (nI O), (nI F), (nI U), fk, pn, pi, ln, pg, so, ed, he, fr, ou) ∧ v = ((nI C), (nI H), (nI D), (nI s), yec, yep, cs, ms, (nI O), (nI U), (nI F), ych, fk, pn, pi, ln, pg, rc, sn, si, sf, tn, ti, tf, he, ou, fr) ∧ ni_I C H D O F U s L cs ep yep fk pn pi ln pg so he fr rc sn si sf
theorem i_up {k : Nat} {u : SX} {v : SY} (h : i_Rel k u v) : i_Rel (k + 5) u v := h
theorem ni_mk {k C H D O F U s : Nat} {L : Nat → Nat} {cs ec ep ms yec yep ych : Int32} {fk pn pi ln pg so ed he fr ou rc sn si sf tn ti tf : Nat → Int32} (h : ni_I C H D O F U s L cs ep yep fk pn pi ln pg so he fr rc sn si sf) : i_Rel k ((nI C), (nI H), (nI D), (nI s), cs, ec, ep, ms, (nI O), (nI F), (nI U), fk, pn, pi, ln, pg, so, ed, he, fr, ou) ((nI C), (nI H), (nI D), (nI s), yec, yep, cs, ms, (nI O), (nI U), (nI F), ych, fk, pn, pi, ln, pg, rc, sn, si, sf, tn, ti, tf, he, ou, fr) := ⟨C, H, D, O, F, U, s, L, cs, ec, ep, ms, yec, yep, ych, fk, pn, pi, ln, pg, so, ed, he, fr, ou, rc, sn, si, sf, tn, ti, tf, rfl, rfl, h⟩
theorem ni_edit {C H D O F U s : Nat} {L L' : Nat → Nat} {cs ep yep : Int32} {fk pn pi ln pg so he fr rc sn si sf fk' pn' pi' ln' pg' : Nat → Int32} (h : ni_I C H D O F U s L cs ep yep fk pn pi ln pg so he fr rc sn si sf) (hde : nv_de fk' pn' pi') (hln : nv_ln L' C ln') (hpg : nv_pg L' pg') : ni_I C H D 0 0 0 s L' 30 ep yep fk' pn' pi' ln' pg' so he fr rc sn si sf := ⟨h.1, hde, hln, hpg, nv_M0, Or.inl rfl, fun z => absurd z (by decide)⟩
theorem xs_wl {post : Int32 → Prop} {x a b : Int32} (h : x < a) (p : post 0) : wpX_within post x a b := by
  unfold wpX_within
  exact br_t h p
theorem xs_wh {post : Int32 → Prop} {x a b : Int32} (h : ¬ x < a) (h2 : b < x) (p : post 0) : wpX_within post x a b := by
  unfold wpX_within
  exact br_f h (br_t h2 p)
theorem xs_wi {post : Int32 → Prop} {x a b : Int32} (h : ¬ x < a) (h2 : ¬ b < x) (p : post 1) : wpX_within post x a b := by
  unfold wpX_within
  exact br_f h (br_f h2 p)
theorem xs_w0 {post : Int32 → Prop} {x a b : Int32} (h : x < a ∨ b < x) (p : post 0) : wpX_within post x a b := by
  unfold wpX_within
  by_cases e : x < a
  · exact br_t e p
  · exact br_f e (br_t (h.resolve_left e) p)
theorem nn_n2 {j n : Nat} (h : j ≤ n) (hn : n < 2 ^ 31) : ¬ nI n < nI j := nI_nlt h hn
theorem i_vc_errorWhere {k : Nat} {u : SX} {v : SY} (I : i_Rel k u v) (hk : k + 5 ≤ 2563) : wpX_errorWhere (fun r => wpY_errorWhere (fun r' => r' = r ∧ i_Rel (k + 5) u v) v) u := by
  have J : i_Rel (k + 5) u v := i_up I
  obtain ⟨C, H, D, O, F, U, s, L, cs, ec, ep, ms, yec, yep, ych, fk, pn, pi, ln, pg, so, ed, he, fr, ou, rc, sn, si, sf, tn, ti, tf, rfl, rfl, hI⟩ := I
  unfold wpX_errorWhere wpY_errorWhere
  refine br_c (fun e => br_t e ⟨hI.2.2.2.2.2.2 e, J⟩) (fun e => br_f e ⟨rfl, J⟩)
theorem i_vc_select {k : Nat} {u : SX} {v : SY} (I : i_Rel k u v) (hk : k + 5 ≤ 2563) (v1 : Int32) : wpX_select (fun r u' => wpY_select (fun r' v' => r' = r ∧ i_Rel (k + 5) u' v') v v1) u v1 := by
  have J : i_Rel (k + 5) u v := i_up I
  obtain ⟨C, H, D, O, F, U, s, L, cs, ec, ep, ms, yec, yep, ych, fk, pn, pi, ln, pg, so, ed, he, fr, ou, rc, sn, si, sf, tn, ti, tf, rfl, rfl, hI⟩ := I
  unfold wpX_select wpY_select
  rcases nn_rng v1 3 (by omega) with ⟨j, hj, rfl⟩ | ⟨h1, h2, h3, h4⟩ | ⟨h1, h2, h3, h4⟩
  · refine xs_wi (nI_pos (by omega)) (nn_n2 hj (by decide)) (br_f (by decide) ?_)
    refine br_f (nI_pos (by omega)) (br_t (nI_le hj (by decide)) ⟨rfl, ni_mk ⟨⟨hI.1.1, hI.1.2.1, hI.1.2.2.1, hI.1.2.2.2.1, hI.1.2.2.2.2.1, by omega⟩, hI.2⟩⟩)
  · exact xs_wl h1 (br_t rfl (br_t h1 ⟨rfl, J⟩))
  · exact xs_wh h1 h3 (br_t rfl (br_f h1 (br_f h4 ⟨rfl, J⟩)))
theorem i_vc_declareField {k : Nat} {u : SX} {v : SY} (I : i_Rel k u v) (hk : k + 5 ≤ 2563) (v1 : Int32) (v2 : Int32) : wpX_declareField (fun r u' => wpY_declareField (fun r' v' => r' = r ∧ i_Rel (k + 5) u' v') v v1 v2) u v1 v2 := by
  have J : i_Rel (k + 5) u v := i_up I
  obtain ⟨C, H, D, O, F, U, s, L, cs, ec, ep, ms, yec, yep, ych, fk, pn, pi, ln, pg, so, ed, he, fr, ou, rc, sn, si, sf, tn, ti, tf, rfl, rfl, hI⟩ := I
  unfold wpX_declareField wpY_declareField
  rcases nn_rng v1 3 (by omega) with ⟨j, hj, rfl⟩ | ⟨h1, h2, h3, h4⟩ | ⟨h1, h2, h3, h4⟩
  · have a1 : ¬ nI j < 0 := nI_pos (by omega)
    have a2 : ¬ (3 : Int32) < nI j := nn_n2 (n := 3) hj (by omega)
    rcases nn_rng v2 1 (by omega) with ⟨m, hm, rfl⟩ | ⟨h1, h2, h3, h4⟩ | ⟨h1, h2, h3, h4⟩
    · refine xs_wi a1 a2 (br_f (by decide) (xs_wi (nI_pos (by omega)) (nn_n2 hm (by decide)) (br_f (by decide) ⟨vp_in_nI (by omega) (by decide), nm_r (e' := upd fk j (nI m)) (by rw [nI_clamp (by omega)]) ?_⟩)))
      refine br_f a1 (br_f a2 (br_f (nI_pos (by omega)) (br_t (nI_le hm (by decide)) ⟨vp_in_nI (by omega) (by decide), nm_r (e' := upd fk j (nI m)) (by rw [nI_clamp (by omega)]) ⟨rfl, ?_⟩⟩)))
      refine ni_mk (O := 0) (F := 0) (U := 0) (ni_edit hI ⟨fun i hi => ?_, hI.2.1.2⟩ hI.2.2.1 hI.2.2.2.1)
      unfold upd
      split
      · have : m = 0 ∨ m = 1 := by omega
        rcases this with rfl | rfl
        · exact Or.inl rfl
        · exact Or.inr rfl
      · exact hI.2.1.1 i hi
    · exact xs_wi a1 a2 (br_f (by decide) (xs_wl h1 (br_t rfl (br_f a1 (br_f a2 (br_t h1 ⟨rfl, J⟩))))))
    · exact xs_wi a1 a2 (br_f (by decide) (xs_wh h1 h3 (br_t rfl (br_f a1 (br_f a2 (br_f h1 (br_f h4 ⟨rfl, J⟩)))))))
  · exact xs_wl h1 (br_t rfl (br_t h1 ⟨rfl, J⟩))
  · exact xs_wh h1 h3 (br_t rfl (br_f h1 (br_t h3 ⟨rfl, J⟩)))
theorem i_vc_declareParam {k : Nat} {u : SX} {v : SY} (I : i_Rel k u v) (hk : k + 5 ≤ 2563) (v1 : Int32) (v2 : Int32) (v3 : Int32) : wpX_declareParam (fun r u' => wpY_declareParam (fun r' v' => r' = r ∧ i_Rel (k + 5) u' v') v v1 v2 v3) u v1 v2 v3 := by
  have J : i_Rel (k + 5) u v := i_up I
  obtain ⟨C, H, D, O, F, U, s, L, cs, ec, ep, ms, yec, yep, ych, fk, pn, pi, ln, pg, so, ed, he, fr, ou, rc, sn, si, sf, tn, ti, tf, rfl, rfl, hI⟩ := I
  unfold wpX_declareParam wpY_declareParam
  by_cases b1 : v1 < 1
  · exact xs_wl b1 (br_t rfl (br_t b1 ⟨rfl, J⟩))
  · by_cases b2 : 3 < v1
    · exact xs_wh b1 b2 (br_t rfl (br_f b1 (br_t b2 ⟨rfl, J⟩)))
    · by_cases c1 : v2 < 0
      · exact xs_wi b1 b2 (br_f (by decide) (xs_wl c1 (br_t rfl (br_f b1 (br_f b2 (br_t c1 ⟨rfl, J⟩))))))
      · by_cases c2 : 1 < v2
        · exact xs_wi b1 b2 (br_f (by decide) (xs_wh c1 c2 (br_t rfl (br_f b1 (br_f b2 (br_f c1 (br_t c2 ⟨rfl, J⟩)))))))
        · by_cases d1 : v3 < 0
          · exact xs_wi b1 b2 (br_f (by decide) (xs_wi c1 c2 (br_f (by decide) (xs_wl d1 (br_t rfl (br_f b1 (br_f b2 (br_f c1 (br_f c2 (br_t d1 ⟨rfl, J⟩))))))))))
          · by_cases d2 : 2 < v3
            · exact xs_wi b1 b2 (br_f (by decide) (xs_wi c1 c2 (br_f (by decide) (xs_wh d1 d2 (br_t rfl (br_f b1 (br_f b2 (br_f c1 (br_f c2 (br_f d1 (br_f (Int32.not_le.mpr d2) ⟨rfl, J⟩)))))))))))
            · have e1 : ¬ v1 < 0 := fun z => b1 (Int32.lt_trans z (by decide))
              obtain ⟨j, hj, rfl⟩ := nI_of e1
              obtain ⟨m, hm, rfl⟩ := nI_of c1
              obtain ⟨n, hn, rfl⟩ := nI_of d1
              have j2 : ¬ 3 < j := fun z => b2 ((nl_gt3 hj).mpr z)
              have m2 : ¬ 1 < m := fun z => c2 ((nl_gt1 hm).mpr z)
              have n2 : ¬ 2 < n := fun z => d2 ((nl_gt2 hn).mpr z)
              have vj : vp_in (nI j) 4 := vp_in_nI (by omega) (by decide)
              have cj : (nI j).toNatClampNeg = j := nI_clamp hj
              refine xs_wi b1 b2 (br_f (by decide) (xs_wi c1 c2 (br_f (by decide) (xs_wi d1 d2 (br_f (by decide) ⟨vj, nm_r (e' := upd pn j (nI m)) (by rw [cj]) ⟨vj, nm_r (e' := upd pi j (nI n)) (by rw [cj]) ?_⟩⟩)))))
              refine br_f b1 (br_f b2 (br_f c1 (br_f c2 (br_f d1 (br_t (Int32.not_lt.mp d2) ⟨vj, nm_r (e' := upd pn j (nI m)) (by rw [cj]) ⟨vj, nm_r (e' := upd pi j (nI n)) (by rw [cj]) ⟨rfl, ?_⟩⟩⟩)))))
              refine ni_mk (O := 0) (F := 0) (U := 0) (ni_edit hI ⟨hI.2.1.1, fun i hi => ?_, fun i hi => ?_⟩ hI.2.2.1 hI.2.2.2.1)
              · unfold upd
                split
                · have : m = 0 ∨ m = 1 := by omega
                  rcases this with rfl | rfl
                  · exact Or.inl rfl
                  · exact Or.inr rfl
                · exact hI.2.1.2.1 i hi
              · unfold upd
                split
                · have : n = 0 ∨ n = 1 ∨ n = 2 := by omega
                  rcases this with rfl | rfl | rfl
                  · exact Or.inl rfl
                  · exact Or.inr (Or.inl rfl)
                  · exact Or.inr (Or.inr rfl)
                · exact hI.2.1.2.2 i hi
theorem i_vc_out {k : Nat} {u : SX} {v : SY} (I : i_Rel k u v) (hk : k + 5 ≤ 2563) (v1 : Int32) : wpX_out (fun r => wpY_out (fun r' => r' = r ∧ i_Rel (k + 5) u v) v v1) u v1 := by
  have J : i_Rel (k + 5) u v := i_up I
  obtain ⟨C, H, D, O, F, U, s, L, cs, ec, ep, ms, yec, yep, ych, fk, pn, pi, ln, pg, so, ed, he, fr, ou, rc, sn, si, sf, tn, ti, tf, rfl, rfl, hI⟩ := I
  have hU := hI.2.2.2.2.1.2.2.1
  unfold wpX_out wpY_out
  by_cases a1 : v1 < 0
  · exact xs_wl a1 (br_t rfl (br_t a1 ⟨rfl, J⟩))
  · obtain ⟨j, hj, rfl⟩ := nI_of a1
    by_cases a2 : j < U
    · refine xs_wi a1 (Int32.not_lt.mpr ((nl_pre hj (by omega)).mpr a2)) (br_f (by decide) ⟨vp_in_nI (by omega) (by decide), ?_⟩)
      exact br_f a1 (br_t (nI_lt a2 (by omega)) ⟨vp_in_nI (by omega) (by decide), rfl, J⟩)
    · refine xs_wh a1 (Int32.not_le.mp (fun z => a2 ((nl_pre hj (by omega)).mp z))) (br_t rfl ?_)
      exact br_f a1 (br_f (nI_nlt (by omega) (by omega)) ⟨rfl, J⟩)
theorem i_vc_field {k : Nat} {u : SX} {v : SY} (I : i_Rel k u v) (hk : k + 5 ≤ 2563) (v1 : Int32) (v2 : Int32) : wpX_field (fun r => wpY_field (fun r' => r' = r ∧ i_Rel (k + 5) u v) v v1 v2) u v1 v2 := by
  have J : i_Rel (k + 5) u v := i_up I
  obtain ⟨C, H, D, O, F, U, s, L, cs, ec, ep, ms, yec, yep, ych, fk, pn, pi, ln, pg, so, ed, he, fr, ou, rc, sn, si, sf, tn, ti, tf, rfl, rfl, hI⟩ := I
  have hO := hI.2.2.2.2.1.1
  have hH := hI.1.2.2.1
  unfold wpX_field wpY_field
  by_cases a1 : v1 < 0
  · exact xs_wl a1 (br_t rfl (br_t a1 ⟨rfl, J⟩))
  · obtain ⟨j, hj, rfl⟩ := nI_of a1
    by_cases a2 : j < O
    · have w2 : ¬ nI O - 1 < nI j := Int32.not_lt.mpr ((nl_pre hj (by omega)).mpr a2)
      have y2 : ¬ nI O ≤ nI j := nI_ge a2 (by omega)
      rcases nn_rng v2 3 (by omega) with ⟨m, hm, rfl⟩ | ⟨h1, h2, h3, h4⟩ | ⟨h1, h2, h3, h4⟩
      · refine xs_wi a1 w2 (br_f (by decide) (xs_wi (nI_pos (by omega)) (nn_n2 hm (by decide)) (br_f (by decide) ?_)))
        rw [nn_m4, nn_clA (by omega)]
        exact ⟨nn_inA (by omega) (by decide), br_f a1 (br_f y2 (br_f (nI_pos (by omega)) (br_t (nI_le hm (by decide)) ⟨nn_inA (by omega) (by decide), rfl, J⟩)))⟩
      · exact xs_wi a1 w2 (br_f (by decide) (xs_wl h1 (br_t rfl (br_f a1 (br_f y2 (br_t h1 ⟨rfl, J⟩))))))
      · exact xs_wi a1 w2 (br_f (by decide) (xs_wh h1 h3 (br_t rfl (br_f a1 (br_f y2 (br_f h1 (br_f h4 ⟨rfl, J⟩)))))))
    · refine xs_wh a1 (Int32.not_le.mp (fun z => a2 ((nl_pre hj (by omega)).mp z))) (br_t rfl ?_)
      exact br_f a1 (br_t (nI_le (by omega) (by omega)) ⟨rfl, J⟩)
theorem i_vc_frame {k : Nat} {u : SX} {v : SY} (I : i_Rel k u v) (hk : k + 5 ≤ 2563) (v1 : Int32) (v2 : Int32) : wpX_frame (fun r => wpY_frame (fun r' => r' = r ∧ i_Rel (k + 5) u v) v v1 v2) u v1 v2 := by
  have J : i_Rel (k + 5) u v := i_up I
  obtain ⟨C, H, D, O, F, U, s, L, cs, ec, ep, ms, yec, yep, ych, fk, pn, pi, ln, pg, so, ed, he, fr, ou, rc, sn, si, sf, tn, ti, tf, rfl, rfl, hI⟩ := I
  have hO := hI.2.2.2.2.1.2.1
  have hH := hI.1.2.2.2.2.1
  unfold wpX_frame wpY_frame
  by_cases a1 : v1 < 0
  · exact xs_wl a1 (br_t rfl (br_t a1 ⟨rfl, J⟩))
  · obtain ⟨j, hj, rfl⟩ := nI_of a1
    by_cases a2 : j < F
    · have w2 : ¬ nI F - 1 < nI j := Int32.not_lt.mpr ((nl_pre hj (by omega)).mpr a2)
      have y2 : ¬ nI F ≤ nI j := nI_ge a2 (by omega)
      rcases nn_rng v2 11 (by omega) with ⟨m, hm, rfl⟩ | ⟨h1, h2, h3, h4⟩ | ⟨h1, h2, h3, h4⟩
      · refine xs_wi a1 w2 (br_f (by decide) (xs_wi (nI_pos (by omega)) (nn_n2 hm (by decide)) (br_f (by decide) ?_)))
        rw [nn_m12, nn_clA (by omega)]
        exact ⟨nn_inA (by omega) (by decide), br_f a1 (br_f y2 (br_f (nI_pos (by omega)) (br_t (nI_le hm (by decide)) ⟨nn_inA (by omega) (by decide), rfl, J⟩)))⟩
      · exact xs_wi a1 w2 (br_f (by decide) (xs_wl h1 (br_t rfl (br_f a1 (br_f y2 (br_t h1 ⟨rfl, J⟩))))))
      · exact xs_wi a1 w2 (br_f (by decide) (xs_wh h1 h3 (br_t rfl (br_f a1 (br_f y2 (br_f h1 (br_f h4 ⟨rfl, J⟩)))))))
    · refine xs_wh a1 (Int32.not_le.mp (fun z => a2 ((nl_pre hj (by omega)).mp z))) (br_t rfl ?_)
      exact br_f a1 (br_t (nI_le (by omega) (by omega)) ⟨rfl, J⟩)
theorem i_vc_code {k : Nat} {u : SX} {v : SY} (I : i_Rel k u v) (hk : k + 5 ≤ 2563) (v1 : Int32) (v2 : Int32) (v3 : Int32) : wpX_code (fun r => wpY_code (fun r' => r' = r ∧ i_Rel (k + 5) u v) v v1 v2 v3) u v1 v2 v3 := by
  have J : i_Rel (k + 5) u v := i_up I
  obtain ⟨C, H, D, O, F, U, s, L, cs, ec, ep, ms, yec, yep, ych, fk, pn, pi, ln, pg, so, ed, he, fr, ou, rc, sn, si, sf, tn, ti, tf, rfl, rfl, hI⟩ := I
  have hC := hI.1.2.1
  unfold wpX_code wpY_code
  rcases nn_rng v1 3 (by omega) with ⟨j, hj, rfl⟩ | ⟨h1, h2, h3, h4⟩ | ⟨h1, h2, h3, h4⟩
  · have a1 : ¬ nI j < 0 := nI_pos (by omega)
    have a2 : ¬ (3 : Int32) < nI j := nn_n2 (n := 3) hj (by omega)
    have vj : vp_in (nI j) 4 := vp_in_nI (by omega) (by decide)
    have cj : (nI j).toNatClampNeg = j := nI_clamp (by omega)
    obtain ⟨hl, hl2⟩ := hI.2.2.1 j (by omega)
    refine xs_wi a1 a2 (br_f (by decide) ⟨vj, ?_⟩)
    rw [cj, hl]
    by_cases b1 : v2 < 0
    · exact xs_wl b1 (br_t rfl (br_f a1 (br_f a2 (br_t b1 ⟨rfl, J⟩))))
    · obtain ⟨p, hp, rfl⟩ := nI_of b1
      by_cases b2 : p < L j
      · have w2 : ¬ nI (L j) - 1 < nI p := Int32.not_lt.mpr ((nl_pre hp (by omega)).mpr b2)
        have y2 : ¬ ln j ≤ nI p := by
          rw [hl]
          exact nI_ge b2 (by omega)
        rcases nn_rng v3 3 (by omega) with ⟨m, hm, rfl⟩ | ⟨h1, h2, h3, h4⟩ | ⟨h1, h2, h3, h4⟩
        · refine xs_wi b1 w2 (br_f (by decide) (xs_wi (nI_pos (by omega)) (nn_n2 hm (by decide)) (br_f (by decide) ?_)))
          unfold wpX_codeAt
          rw [nn_ct]
          refine ⟨nn_inA (by omega) (by decide), ?_⟩
          rw [nn_clA (by omega)]
          refine br_f a1 (br_f a2 (br_f b1 ⟨vj, ?_⟩))
          refine br_f y2 (br_f (nI_pos (by omega)) (br_t (nI_le hm (by decide)) ⟨nn_inA (by omega) (by decide), rfl, J⟩))
        · exact xs_wi b1 w2 (br_f (by decide) (xs_wl h1 (br_t rfl (br_f a1 (br_f a2 (br_f b1 ⟨vj, br_f y2 (br_t h1 ⟨rfl, J⟩)⟩))))))
        · exact xs_wi b1 w2 (br_f (by decide) (xs_wh h1 h3 (br_t rfl (br_f a1 (br_f a2 (br_f b1 ⟨vj, br_f y2 (br_f h1 (br_f h4 ⟨rfl, J⟩))⟩))))))
      · refine xs_wh b1 (Int32.not_le.mp (fun z => b2 ((nl_pre hp (by omega)).mp z))) (br_t rfl ?_)
        exact br_f a1 (br_f a2 (br_f b1 ⟨vj, br_t (by rw [hl]; exact nI_le (by omega) (by omega)) ⟨rfl, J⟩⟩))
  · exact xs_wl h1 (br_t rfl (br_t h1 ⟨rfl, J⟩))
  · exact xs_wh h1 h3 (br_t rfl (br_f h1 (br_t h3 ⟨rfl, J⟩)))
