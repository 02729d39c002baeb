/-! state, info, run, check -/
theorem i_vc_state {k : Nat} {u : SX} {v : SY} (I : i_Rel k u v) (hk : k + 5 ≤ 2563) (v1 : Int32) (v2 : Int32) (v3 : Int32) : wpX_state (fun r => wpY_state (fun r' => r' = r ∧ i_Rel (k + 5) u v) v v1 v2 v3) u v1 v2 v3 := by
  have J : i_Rel (k + 5) u v := i_up I
  obtain ⟨C, H, D, O, F, U, s, L, cs, ec, ep, ms, yec, yep, ych, fk, pn, pi, ln, pg, so, ed, he, fr, ou, rc, sn, si, sf, tn, ti, tf, rfl, rfl, hI⟩ := I
  have hC := hI.1.2.1
  unfold wpX_state wpY_state
  by_cases c0 : cs = 30
  · exact br_t c0 (br_t c0 ⟨rfl, J⟩)
  · have hS : nr_S 4 L so rc sn si sf := (hI.2.2.2.2.2.1.resolve_left c0).2.2
    refine br_f c0 ?_
    rcases nn_rng v1 3 (by omega) with ⟨j, hj, rfl⟩ | ⟨h1, h2, h3, h4⟩ | ⟨h1, h2, h3, h4⟩
    · have a1 : ¬ nI j < 0 := nI_pos (by omega)
      have a2 : ¬ (3 : Int32) < nI j := nn_n2 (n := 3) hj (by decide)
      have vj : vp_in (nI j) 4 := vp_in_nI (by omega) (by decide)
      have cj : (nI j).toNatClampNeg = j := nI_clamp (by omega)
      obtain ⟨hl, hl2⟩ := hI.2.2.1 j (by omega)
      refine xs_wi a1 a2 (br_f (by decide) ⟨vj, ?_⟩)
      rw [cj, hl]
      by_cases b1 : v2 < 0
      · exact xs_wl b1 (br_t rfl (br_f c0 (br_f a1 (br_f a2 (br_t b1 ⟨rfl, J⟩)))))
      · obtain ⟨p, hp, rfl⟩ := nI_of b1
        by_cases b2 : p ≤ L j
        · have w2 : ¬ nI (L j) < nI p := nI_nlt b2 (by omega)
          have y2 : ¬ ln j < nI p := by
            rw [hl]
            exact w2
          rcases nn_rng v3 7 (by omega) with ⟨m, hm, rfl⟩ | ⟨h1, h2, h3, h4⟩ | ⟨h1, h2, h3, h4⟩
          · have g1 : ¬ nI m < 0 := nI_pos (by omega)
            have g2 : ¬ (7 : Int32) < nI m := nn_n2 (n := 7) hm (by decide)
            refine xs_wi b1 w2 (br_f (by decide) (xs_wi g1 g2 (br_f (by decide) ?_)))
            unfold wpX_stateAt
            rw [nn_st]
            refine ⟨nn_inA (by omega) (by decide), ?_⟩
            rw [nn_clA (by omega)]
            have v2 : vp_in (nI (j * 33 + p)) 132 := vp_in_nI (by omega) (by decide)
            have c2 : (nI (j * 33 + p)).toNatClampNeg = j * 33 + p := nI_clamp (by omega)
            have v3 : vp_in (nI ((j * 33 + p) * 8) + nI m) 1056 := nn_inA (by omega) (by decide)
            have c3 : (nI ((j * 33 + p) * 8) + nI m).toNatClampNeg = (j * 33 + p) * 8 + m := nn_clA (by omega)
            refine br_f c0 (br_f a1 (br_f a2 (br_f b1 ⟨vj, br_f y2 ?_⟩)))
            unfold wpY_loc
            refine br_f g1 (br_f g2 (br_f (by decide) ?_))
            rw [nn_m33, nI_add, c2]
            refine ⟨v2, ?_⟩
            rcases hS j (by omega) p b2 with ⟨z1, z2⟩ | ⟨z1, z2⟩
            · exact br_t z1 ⟨(z2 m (by omega)).symm, J⟩
            · refine br_f (by rw [z1]; decide) (nm_e ?_)
              rw [c3]
              refine ⟨v3, v3, v3, ?_, J⟩
              obtain ⟨c, ⟨hc1, hc2⟩, e1, e2, e3, e4⟩ := z2 m (by omega)
              rw [e1, e2, e3, e4, show (2 : Int32) = nI 2 from rfl, show (8 : Int32) = nI 8 from rfl, pk_mul, pk_mul, nI_add, nI_add]
              exact congrArg nI (by omega)
          · refine xs_wi b1 w2 (br_f (by decide) (xs_wl h1 (br_t rfl (br_f c0 (br_f a1 (br_f a2 (br_f b1 ⟨vj, br_f y2 ?_⟩)))))))
            unfold wpY_loc
            exact br_t h1 (br_t rfl ⟨rfl, J⟩)
          · refine xs_wi b1 w2 (br_f (by decide) (xs_wh h1 h3 (br_t rfl (br_f c0 (br_f a1 (br_f a2 (br_f b1 ⟨vj, br_f y2 ?_⟩)))))))
            unfold wpY_loc
            exact br_f h1 (br_t h3 (br_t rfl ⟨rfl, J⟩))
        · have w2 : nI (L j) < nI p := nI_lt (by omega) hp
          exact xs_wh b1 w2 (br_t rfl (br_f c0 (br_f a1 (br_f a2 (br_f b1 ⟨vj, br_t (by rw [hl]; exact w2) ⟨rfl, J⟩⟩)))))
    · exact xs_wl h1 (br_t rfl (br_f c0 (br_t h1 ⟨rfl, J⟩)))
    · exact xs_wh h1 h3 (br_t rfl (br_f c0 (br_f h1 (br_t h3 ⟨rfl, J⟩))))
theorem ni_cl (x : Int32) (lo hi : Nat) (h : lo ≤ hi) (hh : hi < 2 ^ 30) : ∃ c, lo ≤ c ∧ c ≤ hi ∧ ∀ P : Int32 → Prop, P (nI c) → ((nI lo ≤ x → ((x ≤ nI hi → P x) ∧ (¬ x ≤ nI hi → P (nI hi)))) ∧ (¬ nI lo ≤ x → P (nI lo))) := by
  by_cases a : nI lo ≤ x
  · have a0 : ¬ x < 0 := fun z => by
      have z2 := Int32.lt_of_le_of_lt a z
      exact nI_pos (by omega) z2
    obtain ⟨j, hj, rfl⟩ := nI_of a0
    have a1 := (nI_leI (by omega) hj).mp a
    by_cases b : j ≤ hi
    · exact ⟨j, a1, b, fun P p => br_t a (br_t (nI_le b (by omega)) p)⟩
    · exact ⟨hi, h, Nat.le_refl _, fun P p => br_t a (br_f (nI_ge (by omega) hj) p)⟩
  · exact ⟨lo, Nat.le_refl _, h, fun P p => br_f a p⟩
theorem i_vc_run {k : Nat} {u : SX} {v : SY} (I : i_Rel k u v) (hk : k + 5 ≤ 2563) (v1 : Int32) : wpX_run (fun r u' => wpY_run (fun r' v' => r' = r ∧ i_Rel (k + 5) u' v') v v1) u v1 := by
  have J : i_Rel (k + 5) u v := i_up I
  obtain ⟨C, H, D, O, F, U, s, L, cs, ec, ep, ms, yec, yep, ych, fk, pn, pi, ln, pg, so, ed, he, fr, ou, rc, sn, si, sf, tn, ti, tf, rfl, rfl, hI⟩ := I
  unfold wpX_run
  by_cases c0 : cs = 30
  · refine br_t c0 ?_
    unfold wpY_run
    exact br_t c0 ⟨rfl, J⟩
  · obtain ⟨hcs, hF, hS⟩ := hI.2.2.2.2.2.1.resolve_left c0
    obtain ⟨N, _, hN, hP⟩ := ni_cl v1 0 10000 (by omega) (by omega)
    obtain ⟨ms', O', F', U', he', fr', ou', hF', hM', hX, hY⟩ := rn_both (cc := nI C) (sel := nI s) (cs := cs) (ec := ec) (ep := ep) (fk := fk) (pn := pn) (pi := pi) (so := so) (ed := ed) (rc := rc) (sn := sn) (si := si) (sf := sf) (tn := tn) (ti := ti) (tf := tf) hI.1.2.2.2.2.1 hI.1.2.2.1 hI.1.2.1 hI.2.2.1 hI.2.2.2.1 hN N 0 (by omega) ms O F U he fr ou hF hI.2.2.2.2.1
    refine br_f c0 ?_
    unfold wpX_clamp
    refine hP (fun r_2 => ∃ n23 : Nat, wX_run_23 _ r_2 n23 0 (nI C) (nI H) (nI D) (nI s) cs ec ep ms (nI O) (nI F) (nI U) fk pn pi ln pg so ed he fr ou) ⟨N + 1, hX _ ?_⟩
    unfold wpY_run
    refine br_f c0 ?_
    refine hP (fun r_2 => ∃ n37 : Nat, wY_run_37 _ r_2 n37 0 (nI C) (nI H) (nI D) (nI s) yec yep cs ms (nI O) (nI U) (nI F) ych fk pn pi ln pg rc sn si sf tn ti tf he ou fr) ⟨N + 1, hY yec yep ych _ ⟨rfl, ?_⟩⟩
    exact ni_mk ⟨hI.1, hI.2.1, hI.2.2.1, hI.2.2.2.1, hM', Or.inr ⟨hcs, hF', hS⟩, hI.2.2.2.2.2.2⟩
theorem i_vc_check {k : Nat} {u : SX} {v : SY} (I : i_Rel k u v) (hk : k + 5 ≤ 2563) : wpX_check (fun r u' => wpY_check (fun r' v' => r' = r ∧ i_Rel (k + 5) u' v') v) u := by
  obtain ⟨C, H, D, O, F, U, s, L, cs, ec, ep, ms, yec, yep, ych, fk, pn, pi, ln, pg, so, ed, he, fr, ou, rc, sn, si, sf, tn, ti, tf, rfl, rfl, hI⟩ := I
  obtain ⟨so4, ed4, rc4, sn4, si4, sf4, tn4, ti4, tf4, e, pl, hS4, _, hepl, hX1, hX2, hY⟩ := ck_both (cc := nI C) (hc := nI H) (md := nI D) (sel := nI s) (cs := cs) (ec := ec) (ep := ep) (ms := ms) (oc := nI O) (fc := nI F) (uc := nI U) (he := he) (fr := fr) (ou := ou) hI.1.2.1 hI.2.1 hI.2.2.1 hI.2.2.2.1 4 0 (by omega) so ed (na_fi rc 0 132 0) sn si sf tn ti tf (fun b hb => absurd hb (by omega)) (fun j h1 h2 => na_fiI (by omega))
  have R : ∀ (z0 yec' ych' : Int32), (z0 = 31 ∨ z0 = 32) → i_Rel (k + 5) ((nI C), (nI H), (nI D), (nI s), z0, e, pl, 21, 0, (nI (0 + 1)), 0, fk, pn, pi, ln, pg, so4, ed4, he, (nw_push fr 0 0 (-1) (-1) (-1)), ou) ((nI C), (nI H), (nI D), (nI s), yec', pl, z0, 21, 0, 0, 1, ych', fk, pn, pi, ln, pg, rc4, sn4, si4, sf4, tn4, ti4, tf4, he, ou, (upd (upd (upd (upd (na_fi fr 0 8 (-1)) 8 0) 9 0) 10 (-1)) 11 (-1))) := by
    intro z0 yec' ych' hz0
    rw [← nw_main]
    exact ni_mk (O := 0) (F := 1) (U := 0) ⟨hI.1, hI.2.1, hI.2.2.1, hI.2.2.2.1, nv_Mstart hI.1.2.2.2.1, Or.inr ⟨hz0, by omega, hS4⟩, fun _ => rfl⟩
  have ke : (if (0 : Int32) = 0 then e else 0) = e := if_pos rfl
  have kp : (if (0 : Int32) = 0 then (if e = 0 then (-1) else pl) else (-1)) = pl := by
    rw [if_pos rfl]
    by_cases z : e = 0
    · rw [if_pos z, hepl z]
    · rw [if_neg z]
  have YW : ∀ (z0 : Int32), ((e = 0 ∧ z0 = 31) ∨ (¬ e = 0 ∧ z0 = 32)) → wpY_check (fun r' v' => r' = e ∧ i_Rel (k + 5) ((nI C), (nI H), (nI D), (nI s), z0, e, pl, 21, 0, (nI (0 + 1)), 0, fk, pn, pi, ln, pg, so4, ed4, he, (nw_push fr 0 0 (-1) (-1) (-1)), ou) v') ((nI C), (nI H), (nI D), (nI s), yec, yep, cs, ms, (nI O), (nI U), (nI F), ych, fk, pn, pi, ln, pg, rc, sn, si, sf, tn, ti, tf, he, ou, fr) := by
    intro z0 hz0
    refine yc_clear ⟨5, hY yec (-1) ych 0 _ (fun yec' ych' => ?_)⟩
    rw [ke, kp, wY_check_31]
    refine br_t (by decide) ?_
    rcases hz0 with ⟨z1, rfl⟩ | ⟨z1, rfl⟩
    · exact br_t z1 (yc_88 ⟨rfl, R 31 yec' ych' (Or.inl rfl)⟩)
    · exact br_f z1 (yc_88 ⟨rfl, R 32 yec' ych' (Or.inr rfl)⟩)
  unfold wpX_check
  refine ⟨5, hX1 _ ?_⟩
  rw [wX_check_2]
  refine br_t (by decide) ?_
  unfold wpX_report
  refine ⟨5, hX2 _ ?_⟩
  refine br_c (fun z => ?_) (fun z => ?_)
  · unfold wX_check_42 wpX_startMachine wpX_clearMachine
    exact xm_push (F := 0) (by omega) (YW 31 (Or.inl ⟨z, rfl⟩))
  · unfold wX_check_42 wpX_startMachine wpX_clearMachine
    exact xm_push (F := 0) (by omega) (YW 32 (Or.inr ⟨z, rfl⟩))
