/-! emit -/
def nx_fit (x lo m : Int32) : Prop := m = -1 ∨ (¬ x < lo ∧ ¬ m < x)
theorem nx_lo {x lo m : Int32} (h : nx_fit x lo m) (hm : ¬ m = -1) : ¬ x < lo := (h.resolve_left hm).1
theorem nx_hi {x lo m : Int32} (h : nx_fit x lo m) (hm : ¬ m = -1) : ¬ m < x := (h.resolve_left hm).2
theorem nx_of {x : Int32} {n : Nat} (hn : n < 2 ^ 31) (h : nx_fit x 0 (nI n)) : ∃ j, j ≤ n ∧ x = nI j := by
  obtain ⟨j, hj, rfl⟩ := nI_of (nx_lo h (nc_m1 hn))
  have z := nx_hi h (nc_m1 hn)
  refine ⟨j, ?_, rfl⟩
  by_cases e : j ≤ n
  · exact e
  · exact absurd (nI_lt (by omega) hj) z
theorem xe_fit {post : Int32 → Prop} {x lo m : Int32} (h1 : nx_fit x lo m → post 1) (h0 : ¬ nx_fit x lo m → post 0) : wpX_operandFits post x lo m := by
  unfold wpX_operandFits wpX_within
  by_cases e : m = -1
  · exact br_t e (h1 (Or.inl e))
  · refine br_f e ?_
    by_cases a : x < lo
    · exact br_t a (br_t rfl (h0 (fun z => nx_lo z e a)))
    · by_cases b : m < x
      · exact br_f a (br_t b (br_t rfl (h0 (fun z => nx_hi z e b))))
      · exact br_f a (br_f b (br_f (by decide) (h1 (Or.inr ⟨a, b⟩))))
section
variable {cc hc md sel cs ec ep ms oc fc uc : Int32} {fk pn pi ln pg so ed he fr ou : Nat → Int32} {s l C n : Nat} {a b c mA mB mC lB vA vB vC : Int32}
theorem xe_58 {o : Int32} (hs : s < 4) (hl : ln s = nI l) (hl2 : l < 32) (eA : vA = if mA = -1 then 0 else a) (eB : vB = if mB = -1 then 0 else b) (eC : vC = if mC = -1 then 0 else c) {post : Int32 → SX → Prop} (hok : nx_fit a 0 mA ∧ nx_fit b lB mB ∧ nx_fit c 0 mC → post 1 (cc, hc, md, (nI s), 30, ec, ep, 20, 0, 0, 0, fk, pn, pi, (upd ln s (nI (l + 1))), (upd (upd (upd (upd pg ((s * 32 + l) * 4) o) (((s * 32 + l) * 4) + 1) vA) (((s * 32 + l) * 4) + 2) vB) (((s * 32 + l) * 4) + 3) vC), so, ed, he, fr, ou)) (href : ¬ (nx_fit a 0 mA ∧ nx_fit b lB mB ∧ nx_fit c 0 mC) → post 0 (cc, hc, md, (nI s), cs, ec, ep, ms, oc, fc, uc, fk, pn, pi, ln, pg, so, ed, he, fr, ou)) : wX_emit_58 post o a b c mA mB mC lB cc hc md (nI s) cs ec ep ms oc fc uc fk pn pi ln pg so ed he fr ou := by
  have cs1 : (nI s).toNatClampNeg = s := nI_clamp (by omega)
  have vs : vp_in (nI s) 4 := vp_in_nI hs (by decide)
  have c0 : (nI ((s * 32 + l) * 4)).toNatClampNeg = ((s * 32 + l) * 4) := nI_clamp (by omega)
  have c1 : (nI (((s * 32 + l) * 4) + 1)).toNatClampNeg = ((s * 32 + l) * 4) + 1 := nI_clamp (by omega)
  have c2 : (nI (((s * 32 + l) * 4) + 2)).toNatClampNeg = ((s * 32 + l) * 4) + 2 := nI_clamp (by omega)
  have c3 : (nI (((s * 32 + l) * 4) + 3)).toNatClampNeg = ((s * 32 + l) * 4) + 3 := nI_clamp (by omega)
  unfold wX_emit_58
  refine xe_fit (fun fA => br_f (by decide) (xe_fit (fun fB => br_f (by decide) (xe_fit (fun fC => br_f (by decide) ⟨vs, ?_⟩) (fun z => br_t rfl (href (fun y => z y.2.2))))) (fun z => br_t rfl (href (fun y => z y.2.1))))) (fun z => br_t rfl (href (fun y => z y.1)))
  have k := hok ⟨fA, fB, fC⟩
  have E180 : ∀ v, v = vC → wX_emit_180 post v (nI ((s * 32 + l) * 4) + 3) cc hc md (nI s) cs ec ep ms oc fc uc fk pn pi ln (upd (upd (upd pg ((s * 32 + l) * 4) o) (((s * 32 + l) * 4) + 1) vA) (((s * 32 + l) * 4) + 2) vB) so ed he fr ou := by
    rintro v rfl
    unfold wX_emit_180 wpX_resetAfterEdit wpX_clearMachine
    rw [nn_a3, c3, cs1, hl, nn_a1]
    exact ⟨vp_in_nI (by omega) (by decide), nm_e ⟨vs, vs, nm_e k⟩⟩
  have E159 : ∀ v, v = vB → wX_emit_159 post c mC (nI ((s * 32 + l) * 4)) v (nI ((s * 32 + l) * 4) + 2) cc hc md (nI s) cs ec ep ms oc fc uc fk pn pi ln (upd (upd pg ((s * 32 + l) * 4) o) (((s * 32 + l) * 4) + 1) vA) so ed he fr ou := by
    rintro v rfl
    unfold wX_emit_159
    refine ⟨pk_in _ 512 (by omega) (nn_a2 _) (by decide), nm_r (by rw [nn_a2, c2]) (br_c (fun e => E180 _ ?_) (fun e => E180 _ ?_))⟩
    · rw [eC, if_pos e]
    · rw [eC, if_neg e]
  have E139 : ∀ v, v = vA → wX_emit_139 post b c mB mC (nI ((s * 32 + l) * 4)) v (nI ((s * 32 + l) * 4) + 1) cc hc md (nI s) cs ec ep ms oc fc uc fk pn pi ln (upd pg ((s * 32 + l) * 4) o) so ed he fr ou := by
    rintro v rfl
    unfold wX_emit_139
    refine ⟨pk_in _ 512 (by omega) (nn_a1 _) (by decide), nm_r (by rw [nn_a1, c1]) (br_c (fun e => E159 _ ?_) (fun e => E159 _ ?_))⟩
    · rw [eB, if_pos e]
    · rw [eB, if_neg e]
  unfold wpX_codeAt
  rw [cs1, hl, nn_ct]
  refine ⟨vp_in_nI (by omega) (by decide), nm_r (by rw [c0]) (br_c (fun e => E139 _ ?_) (fun e => E139 _ ?_))⟩
  · rw [eA, if_pos e]
  · rw [eA, if_neg e]
theorem xe_op (hn : n < 10) (hs : s < 4) (hl : ln s = nI l) (hlC : l < C) (hC : C ≤ 32) (eA : vA = if mA = -1 then 0 else a) (eB : vB = if mB = -1 then 0 else b) (eC : vC = if mC = -1 then 0 else c) (hA : ∀ P : Int32 → Prop, P mA → wpX_mostOfA P ((nI C), hc, md, (nI s), cs, ec, ep, ms, oc, fc, uc, fk, pn, pi, ln, pg, so, ed, he, fr, ou) (nI n)) (hB : ∀ P : Int32 → Prop, P mB → wpX_mostOfB P ((nI C), hc, md, (nI s), cs, ec, ep, ms, oc, fc, uc, fk, pn, pi, ln, pg, so, ed, he, fr, ou) (nI n)) (hCC : ∀ P : Int32 → Prop, P mC → wpX_mostOfC P (nI n)) (hLB : lB = if n = 2 then 1 else 0) {post : Int32 → SX → Prop} (hok : nx_fit a 0 mA ∧ nx_fit b lB mB ∧ nx_fit c 0 mC → post 1 ((nI C), hc, md, (nI s), 30, ec, ep, 20, 0, 0, 0, fk, pn, pi, (upd ln s (nI (l + 1))), (upd (upd (upd (upd pg ((s * 32 + l) * 4) (nI n)) (((s * 32 + l) * 4) + 1) vA) (((s * 32 + l) * 4) + 2) vB) (((s * 32 + l) * 4) + 3) vC), so, ed, he, fr, ou)) (href : ¬ (nx_fit a 0 mA ∧ nx_fit b lB mB ∧ nx_fit c 0 mC) → post 0 ((nI C), hc, md, (nI s), cs, ec, ep, ms, oc, fc, uc, fk, pn, pi, ln, pg, so, ed, he, fr, ou)) : wpX_emit post ((nI C), hc, md, (nI s), cs, ec, ep, ms, oc, fc, uc, fk, pn, pi, ln, pg, so, ed, he, fr, ou) (nI n) a b c := by
  have cs1 : (nI s).toNatClampNeg = s := nI_clamp (by omega)
  have vs : vp_in (nI s) 4 := vp_in_nI hs (by decide)
  have k := xe_58 (o := nI n) hs hl (by omega) eA eB eC hok href
  unfold wpX_emit
  refine xs_wi (nI_pos (by omega)) (nn_n2 (n := 9) (by omega) (by decide)) (br_f (by decide) ⟨vs, ?_⟩)
  rw [cs1, hl]
  refine br_t (nI_lt hlC (by omega)) (hA _ (hB _ (hCC _ (br_c (fun e => ?_) (fun e => ?_)))))
  · rw [if_pos ((nl_eq2 (by omega)).mp e)] at hLB
    subst hLB
    exact k
  · rw [if_neg (fun z => e ((nl_eq2 (by omega)).mpr z))] at hLB
    subst hLB
    exact k
end
section
variable {cc hc md sel yec yep cs ms oc uc fc ych : Int32} {fk pn pi ln pg rc sn si sf tn ti tf he ou fr : Nat → Int32} {s l C n : Nat} {a b c : Int32}
theorem yl_loc {u : SY} {post : Int32 → Prop} {x : Int32} (h1 : nx_fit x 0 7 → post 1) (h0 : ¬ nx_fit x 0 7 → post 0) : wpY_loc post u x := by
  unfold wpY_loc
  by_cases a1 : x < 0
  · exact br_t a1 (h0 (fun z => nx_lo z (by decide) a1))
  · by_cases a2 : 7 < x
    · exact br_f a1 (br_t a2 (h0 (fun z => nx_hi z (by decide) a2)))
    · exact br_f a1 (br_f a2 (h1 (Or.inr ⟨a1, a2⟩)))
theorem ye_330 {o vA vB vC z : Int32} (hs : s < 4) (hl : ln s = nI l) (hl2 : l < 32) {post : Int32 → SY → Prop} (h1 : ¬ z = 0 → post 1 (cc, hc, md, (nI s), yec, yep, 30, 20, 0, 0, 0, ych, fk, pn, pi, (upd ln s (nI (l + 1))), (upd (upd (upd (upd pg ((s * 32 + l) * 4) o) (((s * 32 + l) * 4) + 1) vA) (((s * 32 + l) * 4) + 2) vB) (((s * 32 + l) * 4) + 3) vC), rc, sn, si, sf, tn, ti, tf, he, ou, fr)) (h0 : z = 0 → post 0 (cc, hc, md, (nI s), yec, yep, cs, ms, oc, uc, fc, ych, fk, pn, pi, ln, pg, rc, sn, si, sf, tn, ti, tf, he, ou, fr)) : wY_emit_330 post o vA vB vC z cc hc md (nI s) yec yep cs ms oc uc fc ych fk pn pi ln pg rc sn si sf tn ti tf he ou fr := by
  have cs1 : (nI s).toNatClampNeg = s := nI_clamp (by omega)
  have vs : vp_in (nI s) 4 := vp_in_nI hs (by decide)
  unfold wY_emit_330 wpY_edit
  refine br_c h0 (fun e => ⟨vs, ?_⟩)
  rw [cs1, hl]
  refine nm_r (nn_ct s l) ?_
  rw [nn_a1 ((s * 32 + l) * 4), nn_a2, nn_a3, nI_clamp (n := ((s * 32 + l) * 4)) (by omega), nI_clamp (n := ((s * 32 + l) * 4) + 1) (by omega), nI_clamp (n := ((s * 32 + l) * 4) + 2) (by omega), nI_clamp (n := ((s * 32 + l) * 4) + 3) (by omega), nn_a1 l]
  exact ⟨vp_in_nI (by omega) (by decide), nm_e ⟨vp_in_nI (by omega) (by decide), nm_e ⟨vp_in_nI (by omega) (by decide), nm_e ⟨vp_in_nI (by omega) (by decide), nm_e ⟨vs, vs, nm_e (h1 e)⟩⟩⟩⟩⟩
theorem ye_0 (hs : s < 4) (hl : ln s = nI l) (hlC : l < C) (hC : C ≤ 32) {post : Int32 → SY → Prop} (hok : (nx_fit a 0 7 ∧ nx_fit b 0 (-1) ∧ nx_fit c 0 (-1)) → post 1 ((nI C), hc, md, (nI s), yec, yep, 30, 20, 0, 0, 0, ych, fk, pn, pi, (upd ln s (nI (l + 1))), (upd (upd (upd (upd pg ((s * 32 + l) * 4) (nI 0)) (((s * 32 + l) * 4) + 1) a) (((s * 32 + l) * 4) + 2) 0) (((s * 32 + l) * 4) + 3) 0), rc, sn, si, sf, tn, ti, tf, he, ou, fr)) (href : ¬ (nx_fit a 0 7 ∧ nx_fit b 0 (-1) ∧ nx_fit c 0 (-1)) → post 0 ((nI C), hc, md, (nI s), yec, yep, cs, ms, oc, uc, fc, ych, fk, pn, pi, ln, pg, rc, sn, si, sf, tn, ti, tf, he, ou, fr)) : wpY_emit post ((nI C), hc, md, (nI s), yec, yep, cs, ms, oc, uc, fc, ych, fk, pn, pi, ln, pg, rc, sn, si, sf, tn, ti, tf, he, ou, fr) (nI 0) a b c := by
  have cs1 : (nI s).toNatClampNeg = s := nI_clamp (by omega)
  have vs : vp_in (nI s) 4 := vp_in_nI hs (by decide)
  have Ac : (nx_fit a 0 7 ∧ nx_fit b 0 (-1) ∧ nx_fit c 0 (-1)) → wY_emit_330 post (nI 0) a 0 0 1 (nI C) hc md (nI s) yec yep cs ms oc uc fc ych fk pn pi ln pg rc sn si sf tn ti tf he ou fr := fun z => ye_330 hs hl (by omega) (fun _ => hok z) (fun e => absurd e (by decide))
  have Re : ¬ (nx_fit a 0 7 ∧ nx_fit b 0 (-1) ∧ nx_fit c 0 (-1)) → wY_emit_330 post (nI 0) a 0 0 0 (nI C) hc md (nI s) yec yep cs ms oc uc fc ych fk pn pi ln pg rc sn si sf tn ti tf he ou fr := fun z => ye_330 hs hl (by omega) (fun e => absurd rfl e) (fun _ => href z)
  unfold wpY_emit
  refine br_f (by decide) (br_f (by decide) ⟨vs, br_t (by rw [cs1, hl]; exact nI_lt hlC (by omega)) ?_⟩)
  refine br_t (by decide) ?_
  unfold wY_emit_50
  exact yl_loc (fun fa => Ac ⟨fa, Or.inl rfl, Or.inl rfl⟩) (fun fa => Re (fun z => fa z.1))
theorem ye_1 (hs : s < 4) (hl : ln s = nI l) (hlC : l < C) (hC : C ≤ 32) {post : Int32 → SY → Prop} (hok : (nx_fit a 0 7 ∧ nx_fit b 0 7 ∧ nx_fit c 0 (-1)) → post 1 ((nI C), hc, md, (nI s), yec, yep, 30, 20, 0, 0, 0, ych, fk, pn, pi, (upd ln s (nI (l + 1))), (upd (upd (upd (upd pg ((s * 32 + l) * 4) (nI 1)) (((s * 32 + l) * 4) + 1) a) (((s * 32 + l) * 4) + 2) b) (((s * 32 + l) * 4) + 3) 0), rc, sn, si, sf, tn, ti, tf, he, ou, fr)) (href : ¬ (nx_fit a 0 7 ∧ nx_fit b 0 7 ∧ nx_fit c 0 (-1)) → post 0 ((nI C), hc, md, (nI s), yec, yep, cs, ms, oc, uc, fc, ych, fk, pn, pi, ln, pg, rc, sn, si, sf, tn, ti, tf, he, ou, fr)) : wpY_emit post ((nI C), hc, md, (nI s), yec, yep, cs, ms, oc, uc, fc, ych, fk, pn, pi, ln, pg, rc, sn, si, sf, tn, ti, tf, he, ou, fr) (nI 1) a b c := by
  have cs1 : (nI s).toNatClampNeg = s := nI_clamp (by omega)
  have vs : vp_in (nI s) 4 := vp_in_nI hs (by decide)
  have Ac : (nx_fit a 0 7 ∧ nx_fit b 0 7 ∧ nx_fit c 0 (-1)) → wY_emit_330 post (nI 1) a b 0 1 (nI C) hc md (nI s) yec yep cs ms oc uc fc ych fk pn pi ln pg rc sn si sf tn ti tf he ou fr := fun z => ye_330 hs hl (by omega) (fun _ => hok z) (fun e => absurd e (by decide))
  have Re : ¬ (nx_fit a 0 7 ∧ nx_fit b 0 7 ∧ nx_fit c 0 (-1)) → wY_emit_330 post (nI 1) a b 0 0 (nI C) hc md (nI s) yec yep cs ms oc uc fc ych fk pn pi ln pg rc sn si sf tn ti tf he ou fr := fun z => ye_330 hs hl (by omega) (fun e => absurd rfl e) (fun _ => href z)
  unfold wpY_emit
  refine br_f (by decide) (br_f (by decide) ⟨vs, br_t (by rw [cs1, hl]; exact nI_lt hlC (by omega)) ?_⟩)
  refine br_f (by decide) (br_f (by decide) (br_t (by decide) ?_))
  exact yl_loc (fun fa => br_f (by decide) (yl_loc (fun fb => br_f (by decide) (Ac ⟨fa, fb, Or.inl rfl⟩)) (fun fb => br_t rfl (Re (fun z => fb z.2.1))))) (fun fa => br_t rfl (Re (fun z => fa z.1)))
theorem ye_2 (hs : s < 4) (hl : ln s = nI l) (hlC : l < C) (hC : C ≤ 32) {post : Int32 → SY → Prop} (hok : (nx_fit a 0 7 ∧ nx_fit b 1 3 ∧ nx_fit c 0 7) → post 1 ((nI C), hc, md, (nI s), yec, yep, 30, 20, 0, 0, 0, ych, fk, pn, pi, (upd ln s (nI (l + 1))), (upd (upd (upd (upd pg ((s * 32 + l) * 4) (nI 2)) (((s * 32 + l) * 4) + 1) a) (((s * 32 + l) * 4) + 2) b) (((s * 32 + l) * 4) + 3) c), rc, sn, si, sf, tn, ti, tf, he, ou, fr)) (href : ¬ (nx_fit a 0 7 ∧ nx_fit b 1 3 ∧ nx_fit c 0 7) → post 0 ((nI C), hc, md, (nI s), yec, yep, cs, ms, oc, uc, fc, ych, fk, pn, pi, ln, pg, rc, sn, si, sf, tn, ti, tf, he, ou, fr)) : wpY_emit post ((nI C), hc, md, (nI s), yec, yep, cs, ms, oc, uc, fc, ych, fk, pn, pi, ln, pg, rc, sn, si, sf, tn, ti, tf, he, ou, fr) (nI 2) a b c := by
  have cs1 : (nI s).toNatClampNeg = s := nI_clamp (by omega)
  have vs : vp_in (nI s) 4 := vp_in_nI hs (by decide)
  have Ac : (nx_fit a 0 7 ∧ nx_fit b 1 3 ∧ nx_fit c 0 7) → wY_emit_330 post (nI 2) a b c 1 (nI C) hc md (nI s) yec yep cs ms oc uc fc ych fk pn pi ln pg rc sn si sf tn ti tf he ou fr := fun z => ye_330 hs hl (by omega) (fun _ => hok z) (fun e => absurd e (by decide))
  have Re : ¬ (nx_fit a 0 7 ∧ nx_fit b 1 3 ∧ nx_fit c 0 7) → wY_emit_330 post (nI 2) a b c 0 (nI C) hc md (nI s) yec yep cs ms oc uc fc ych fk pn pi ln pg rc sn si sf tn ti tf he ou fr := fun z => ye_330 hs hl (by omega) (fun e => absurd rfl e) (fun _ => href z)
  unfold wpY_emit
  refine br_f (by decide) (br_f (by decide) ⟨vs, br_t (by rw [cs1, hl]; exact nI_lt hlC (by omega)) ?_⟩)
  refine br_f (by decide) (br_f (by decide) (br_f (by decide) (br_t (by decide) ?_)))
  exact yl_loc (fun fa => br_f (by decide) (br_c (fun e => Re (fun z => nx_lo z.2.1 (by decide) e)) (fun e1 => br_c (fun e => Re (fun z => nx_hi z.2.1 (by decide) e)) (fun e2 => yl_loc (fun fc => br_f (by decide) (Ac ⟨fa, Or.inr ⟨e1, e2⟩, fc⟩)) (fun fc => br_t rfl (Re (fun z => fc z.2.2))))))) (fun fa => br_t rfl (Re (fun z => fa z.1)))
theorem ye_3 (hs : s < 4) (hl : ln s = nI l) (hlC : l < C) (hC : C ≤ 32) {post : Int32 → SY → Prop} (hok : (nx_fit a 0 7 ∧ nx_fit b 0 7 ∧ nx_fit c 0 3) → post 1 ((nI C), hc, md, (nI s), yec, yep, 30, 20, 0, 0, 0, ych, fk, pn, pi, (upd ln s (nI (l + 1))), (upd (upd (upd (upd pg ((s * 32 + l) * 4) (nI 3)) (((s * 32 + l) * 4) + 1) a) (((s * 32 + l) * 4) + 2) b) (((s * 32 + l) * 4) + 3) c), rc, sn, si, sf, tn, ti, tf, he, ou, fr)) (href : ¬ (nx_fit a 0 7 ∧ nx_fit b 0 7 ∧ nx_fit c 0 3) → post 0 ((nI C), hc, md, (nI s), yec, yep, cs, ms, oc, uc, fc, ych, fk, pn, pi, ln, pg, rc, sn, si, sf, tn, ti, tf, he, ou, fr)) : wpY_emit post ((nI C), hc, md, (nI s), yec, yep, cs, ms, oc, uc, fc, ych, fk, pn, pi, ln, pg, rc, sn, si, sf, tn, ti, tf, he, ou, fr) (nI 3) a b c := by
  have cs1 : (nI s).toNatClampNeg = s := nI_clamp (by omega)
  have vs : vp_in (nI s) 4 := vp_in_nI hs (by decide)
  have Ac : (nx_fit a 0 7 ∧ nx_fit b 0 7 ∧ nx_fit c 0 3) → wY_emit_330 post (nI 3) a b c 1 (nI C) hc md (nI s) yec yep cs ms oc uc fc ych fk pn pi ln pg rc sn si sf tn ti tf he ou fr := fun z => ye_330 hs hl (by omega) (fun _ => hok z) (fun e => absurd e (by decide))
  have Re : ¬ (nx_fit a 0 7 ∧ nx_fit b 0 7 ∧ nx_fit c 0 3) → wY_emit_330 post (nI 3) a b c 0 (nI C) hc md (nI s) yec yep cs ms oc uc fc ych fk pn pi ln pg rc sn si sf tn ti tf he ou fr := fun z => ye_330 hs hl (by omega) (fun e => absurd rfl e) (fun _ => href z)
  unfold wpY_emit
  refine br_f (by decide) (br_f (by decide) ⟨vs, br_t (by rw [cs1, hl]; exact nI_lt hlC (by omega)) ?_⟩)
  refine br_f (by decide) (br_f (by decide) (br_f (by decide) (br_f (by decide) (br_t (by decide) ?_))))
  exact yl_loc (fun fa => br_f (by decide) (yl_loc (fun fb => br_f (by decide) (br_c (fun e => Re (fun z => nx_lo z.2.2 (by decide) e)) (fun e1 => br_c (fun e => Re (fun z => nx_hi z.2.2 (by decide) e)) (fun e2 => Ac ⟨fa, fb, Or.inr ⟨e1, e2⟩⟩)))) (fun fb => br_t rfl (Re (fun z => fb z.2.1))))) (fun fa => br_t rfl (Re (fun z => fa z.1)))
theorem ye_4 (hs : s < 4) (hl : ln s = nI l) (hlC : l < C) (hC : C ≤ 32) {post : Int32 → SY → Prop} (hok : (nx_fit a 0 7 ∧ nx_fit b 0 3 ∧ nx_fit c 0 7) → post 1 ((nI C), hc, md, (nI s), yec, yep, 30, 20, 0, 0, 0, ych, fk, pn, pi, (upd ln s (nI (l + 1))), (upd (upd (upd (upd pg ((s * 32 + l) * 4) (nI 4)) (((s * 32 + l) * 4) + 1) a) (((s * 32 + l) * 4) + 2) b) (((s * 32 + l) * 4) + 3) c), rc, sn, si, sf, tn, ti, tf, he, ou, fr)) (href : ¬ (nx_fit a 0 7 ∧ nx_fit b 0 3 ∧ nx_fit c 0 7) → post 0 ((nI C), hc, md, (nI s), yec, yep, cs, ms, oc, uc, fc, ych, fk, pn, pi, ln, pg, rc, sn, si, sf, tn, ti, tf, he, ou, fr)) : wpY_emit post ((nI C), hc, md, (nI s), yec, yep, cs, ms, oc, uc, fc, ych, fk, pn, pi, ln, pg, rc, sn, si, sf, tn, ti, tf, he, ou, fr) (nI 4) a b c := by
  have cs1 : (nI s).toNatClampNeg = s := nI_clamp (by omega)
  have vs : vp_in (nI s) 4 := vp_in_nI hs (by decide)
  have Ac : (nx_fit a 0 7 ∧ nx_fit b 0 3 ∧ nx_fit c 0 7) → wY_emit_330 post (nI 4) a b c 1 (nI C) hc md (nI s) yec yep cs ms oc uc fc ych fk pn pi ln pg rc sn si sf tn ti tf he ou fr := fun z => ye_330 hs hl (by omega) (fun _ => hok z) (fun e => absurd e (by decide))
  have Re : ¬ (nx_fit a 0 7 ∧ nx_fit b 0 3 ∧ nx_fit c 0 7) → wY_emit_330 post (nI 4) a b c 0 (nI C) hc md (nI s) yec yep cs ms oc uc fc ych fk pn pi ln pg rc sn si sf tn ti tf he ou fr := fun z => ye_330 hs hl (by omega) (fun e => absurd rfl e) (fun _ => href z)
  unfold wpY_emit
  refine br_f (by decide) (br_f (by decide) ⟨vs, br_t (by rw [cs1, hl]; exact nI_lt hlC (by omega)) ?_⟩)
  refine br_f (by decide) (br_f (by decide) (br_f (by decide) (br_f (by decide) (br_f (by decide) (br_t (by decide) ?_)))))
  exact yl_loc (fun fa => br_f (by decide) (br_c (fun e => Re (fun z => nx_lo z.2.1 (by decide) e)) (fun e1 => br_c (fun e => Re (fun z => nx_hi z.2.1 (by decide) e)) (fun e2 => yl_loc (fun fc => br_f (by decide) (Ac ⟨fa, Or.inr ⟨e1, e2⟩, fc⟩)) (fun fc => br_t rfl (Re (fun z => fc z.2.2))))))) (fun fa => br_t rfl (Re (fun z => fa z.1)))
theorem ye_5 (hs : s < 4) (hl : ln s = nI l) (hlC : l < C) (hC : C ≤ 32) {post : Int32 → SY → Prop} (hok : (nx_fit a 0 7 ∧ nx_fit b 0 (nI C) ∧ nx_fit c 0 (-1)) → post 1 ((nI C), hc, md, (nI s), yec, yep, 30, 20, 0, 0, 0, ych, fk, pn, pi, (upd ln s (nI (l + 1))), (upd (upd (upd (upd pg ((s * 32 + l) * 4) (nI 5)) (((s * 32 + l) * 4) + 1) a) (((s * 32 + l) * 4) + 2) b) (((s * 32 + l) * 4) + 3) 0), rc, sn, si, sf, tn, ti, tf, he, ou, fr)) (href : ¬ (nx_fit a 0 7 ∧ nx_fit b 0 (nI C) ∧ nx_fit c 0 (-1)) → post 0 ((nI C), hc, md, (nI s), yec, yep, cs, ms, oc, uc, fc, ych, fk, pn, pi, ln, pg, rc, sn, si, sf, tn, ti, tf, he, ou, fr)) : wpY_emit post ((nI C), hc, md, (nI s), yec, yep, cs, ms, oc, uc, fc, ych, fk, pn, pi, ln, pg, rc, sn, si, sf, tn, ti, tf, he, ou, fr) (nI 5) a b c := by
  have cs1 : (nI s).toNatClampNeg = s := nI_clamp (by omega)
  have vs : vp_in (nI s) 4 := vp_in_nI hs (by decide)
  have Ac : (nx_fit a 0 7 ∧ nx_fit b 0 (nI C) ∧ nx_fit c 0 (-1)) → wY_emit_330 post (nI 5) a b 0 1 (nI C) hc md (nI s) yec yep cs ms oc uc fc ych fk pn pi ln pg rc sn si sf tn ti tf he ou fr := fun z => ye_330 hs hl (by omega) (fun _ => hok z) (fun e => absurd e (by decide))
  have Re : ¬ (nx_fit a 0 7 ∧ nx_fit b 0 (nI C) ∧ nx_fit c 0 (-1)) → wY_emit_330 post (nI 5) a b 0 0 (nI C) hc md (nI s) yec yep cs ms oc uc fc ych fk pn pi ln pg rc sn si sf tn ti tf he ou fr := fun z => ye_330 hs hl (by omega) (fun e => absurd rfl e) (fun _ => href z)
  unfold wpY_emit
  refine br_f (by decide) (br_f (by decide) ⟨vs, br_t (by rw [cs1, hl]; exact nI_lt hlC (by omega)) ?_⟩)
  refine br_f (by decide) (br_f (by decide) (br_f (by decide) (br_f (by decide) (br_f (by decide) (br_f (by decide) (br_t (by decide) ?_))))))
  unfold wY_emit_266
  exact yl_loc (fun fa => br_f (by decide) (br_c (fun e => Re (fun z => nx_lo z.2.1 (nc_m1 (by omega)) e)) (fun e1 => br_c (fun e => Re (fun z => nx_hi z.2.1 (nc_m1 (by omega)) e)) (fun e2 => Ac ⟨fa, Or.inr ⟨e1, e2⟩, Or.inl rfl⟩)))) (fun fa => br_t rfl (Re (fun z => fa z.1)))
theorem ye_6 (hs : s < 4) (hl : ln s = nI l) (hlC : l < C) (hC : C ≤ 32) {post : Int32 → SY → Prop} (hok : (nx_fit a 0 7 ∧ nx_fit b 0 (nI C) ∧ nx_fit c 0 (-1)) → post 1 ((nI C), hc, md, (nI s), yec, yep, 30, 20, 0, 0, 0, ych, fk, pn, pi, (upd ln s (nI (l + 1))), (upd (upd (upd (upd pg ((s * 32 + l) * 4) (nI 6)) (((s * 32 + l) * 4) + 1) a) (((s * 32 + l) * 4) + 2) b) (((s * 32 + l) * 4) + 3) 0), rc, sn, si, sf, tn, ti, tf, he, ou, fr)) (href : ¬ (nx_fit a 0 7 ∧ nx_fit b 0 (nI C) ∧ nx_fit c 0 (-1)) → post 0 ((nI C), hc, md, (nI s), yec, yep, cs, ms, oc, uc, fc, ych, fk, pn, pi, ln, pg, rc, sn, si, sf, tn, ti, tf, he, ou, fr)) : wpY_emit post ((nI C), hc, md, (nI s), yec, yep, cs, ms, oc, uc, fc, ych, fk, pn, pi, ln, pg, rc, sn, si, sf, tn, ti, tf, he, ou, fr) (nI 6) a b c := by
  have cs1 : (nI s).toNatClampNeg = s := nI_clamp (by omega)
  have vs : vp_in (nI s) 4 := vp_in_nI hs (by decide)
  have Ac : (nx_fit a 0 7 ∧ nx_fit b 0 (nI C) ∧ nx_fit c 0 (-1)) → wY_emit_330 post (nI 6) a b 0 1 (nI C) hc md (nI s) yec yep cs ms oc uc fc ych fk pn pi ln pg rc sn si sf tn ti tf he ou fr := fun z => ye_330 hs hl (by omega) (fun _ => hok z) (fun e => absurd e (by decide))
  have Re : ¬ (nx_fit a 0 7 ∧ nx_fit b 0 (nI C) ∧ nx_fit c 0 (-1)) → wY_emit_330 post (nI 6) a b 0 0 (nI C) hc md (nI s) yec yep cs ms oc uc fc ych fk pn pi ln pg rc sn si sf tn ti tf he ou fr := fun z => ye_330 hs hl (by omega) (fun e => absurd rfl e) (fun _ => href z)
  unfold wpY_emit
  refine br_f (by decide) (br_f (by decide) ⟨vs, br_t (by rw [cs1, hl]; exact nI_lt hlC (by omega)) ?_⟩)
  refine br_f (by decide) (br_f (by decide) (br_f (by decide) (br_f (by decide) (br_f (by decide) (br_f (by decide) (br_f (by decide) (br_t (by decide) ?_)))))))
  unfold wY_emit_266
  exact yl_loc (fun fa => br_f (by decide) (br_c (fun e => Re (fun z => nx_lo z.2.1 (nc_m1 (by omega)) e)) (fun e1 => br_c (fun e => Re (fun z => nx_hi z.2.1 (nc_m1 (by omega)) e)) (fun e2 => Ac ⟨fa, Or.inr ⟨e1, e2⟩, Or.inl rfl⟩)))) (fun fa => br_t rfl (Re (fun z => fa z.1)))
theorem ye_7 (hs : s < 4) (hl : ln s = nI l) (hlC : l < C) (hC : C ≤ 32) {post : Int32 → SY → Prop} (hok : (nx_fit a 0 (nI C) ∧ nx_fit b 0 (-1) ∧ nx_fit c 0 (-1)) → post 1 ((nI C), hc, md, (nI s), yec, yep, 30, 20, 0, 0, 0, ych, fk, pn, pi, (upd ln s (nI (l + 1))), (upd (upd (upd (upd pg ((s * 32 + l) * 4) (nI 7)) (((s * 32 + l) * 4) + 1) a) (((s * 32 + l) * 4) + 2) 0) (((s * 32 + l) * 4) + 3) 0), rc, sn, si, sf, tn, ti, tf, he, ou, fr)) (href : ¬ (nx_fit a 0 (nI C) ∧ nx_fit b 0 (-1) ∧ nx_fit c 0 (-1)) → post 0 ((nI C), hc, md, (nI s), yec, yep, cs, ms, oc, uc, fc, ych, fk, pn, pi, ln, pg, rc, sn, si, sf, tn, ti, tf, he, ou, fr)) : wpY_emit post ((nI C), hc, md, (nI s), yec, yep, cs, ms, oc, uc, fc, ych, fk, pn, pi, ln, pg, rc, sn, si, sf, tn, ti, tf, he, ou, fr) (nI 7) a b c := by
  have cs1 : (nI s).toNatClampNeg = s := nI_clamp (by omega)
  have vs : vp_in (nI s) 4 := vp_in_nI hs (by decide)
  have Ac : (nx_fit a 0 (nI C) ∧ nx_fit b 0 (-1) ∧ nx_fit c 0 (-1)) → wY_emit_330 post (nI 7) a 0 0 1 (nI C) hc md (nI s) yec yep cs ms oc uc fc ych fk pn pi ln pg rc sn si sf tn ti tf he ou fr := fun z => ye_330 hs hl (by omega) (fun _ => hok z) (fun e => absurd e (by decide))
  have Re : ¬ (nx_fit a 0 (nI C) ∧ nx_fit b 0 (-1) ∧ nx_fit c 0 (-1)) → wY_emit_330 post (nI 7) a 0 0 0 (nI C) hc md (nI s) yec yep cs ms oc uc fc ych fk pn pi ln pg rc sn si sf tn ti tf he ou fr := fun z => ye_330 hs hl (by omega) (fun e => absurd rfl e) (fun _ => href z)
  unfold wpY_emit
  refine br_f (by decide) (br_f (by decide) ⟨vs, br_t (by rw [cs1, hl]; exact nI_lt hlC (by omega)) ?_⟩)
  refine br_f (by decide) (br_f (by decide) (br_f (by decide) (br_f (by decide) (br_f (by decide) (br_f (by decide) (br_f (by decide) (br_f (by decide) (br_t (by decide) ?_))))))))
  exact br_c (fun e => Re (fun z => nx_lo z.1 (nc_m1 (by omega)) e)) (fun e1 => br_c (fun e => Re (fun z => nx_hi z.1 (nc_m1 (by omega)) e)) (fun e2 => Ac ⟨Or.inr ⟨e1, e2⟩, Or.inl rfl, Or.inl rfl⟩))
theorem ye_8 (hs : s < 4) (hl : ln s = nI l) (hlC : l < C) (hC : C ≤ 32) {post : Int32 → SY → Prop} (hok : (nx_fit a 0 (-1) ∧ nx_fit b 0 (-1) ∧ nx_fit c 0 (-1)) → post 1 ((nI C), hc, md, (nI s), yec, yep, 30, 20, 0, 0, 0, ych, fk, pn, pi, (upd ln s (nI (l + 1))), (upd (upd (upd (upd pg ((s * 32 + l) * 4) (nI 8)) (((s * 32 + l) * 4) + 1) 0) (((s * 32 + l) * 4) + 2) 0) (((s * 32 + l) * 4) + 3) 0), rc, sn, si, sf, tn, ti, tf, he, ou, fr)) (href : ¬ (nx_fit a 0 (-1) ∧ nx_fit b 0 (-1) ∧ nx_fit c 0 (-1)) → post 0 ((nI C), hc, md, (nI s), yec, yep, cs, ms, oc, uc, fc, ych, fk, pn, pi, ln, pg, rc, sn, si, sf, tn, ti, tf, he, ou, fr)) : wpY_emit post ((nI C), hc, md, (nI s), yec, yep, cs, ms, oc, uc, fc, ych, fk, pn, pi, ln, pg, rc, sn, si, sf, tn, ti, tf, he, ou, fr) (nI 8) a b c := by
  have cs1 : (nI s).toNatClampNeg = s := nI_clamp (by omega)
  have vs : vp_in (nI s) 4 := vp_in_nI hs (by decide)
  have Ac : (nx_fit a 0 (-1) ∧ nx_fit b 0 (-1) ∧ nx_fit c 0 (-1)) → wY_emit_330 post (nI 8) 0 0 0 1 (nI C) hc md (nI s) yec yep cs ms oc uc fc ych fk pn pi ln pg rc sn si sf tn ti tf he ou fr := fun z => ye_330 hs hl (by omega) (fun _ => hok z) (fun e => absurd e (by decide))
  have Re : ¬ (nx_fit a 0 (-1) ∧ nx_fit b 0 (-1) ∧ nx_fit c 0 (-1)) → wY_emit_330 post (nI 8) 0 0 0 0 (nI C) hc md (nI s) yec yep cs ms oc uc fc ych fk pn pi ln pg rc sn si sf tn ti tf he ou fr := fun z => ye_330 hs hl (by omega) (fun e => absurd rfl e) (fun _ => href z)
  unfold wpY_emit
  refine br_f (by decide) (br_f (by decide) ⟨vs, br_t (by rw [cs1, hl]; exact nI_lt hlC (by omega)) ?_⟩)
  refine br_f (by decide) (br_f (by decide) (br_f (by decide) (br_f (by decide) (br_f (by decide) (br_f (by decide) (br_f (by decide) (br_f (by decide) (br_f (by decide) (?_)))))))))
  exact Ac ⟨Or.inl rfl, Or.inl rfl, Or.inl rfl⟩
theorem ye_9 (hs : s < 4) (hl : ln s = nI l) (hlC : l < C) (hC : C ≤ 32) {post : Int32 → SY → Prop} (hok : (nx_fit a 0 7 ∧ nx_fit b 0 (-1) ∧ nx_fit c 0 (-1)) → post 1 ((nI C), hc, md, (nI s), yec, yep, 30, 20, 0, 0, 0, ych, fk, pn, pi, (upd ln s (nI (l + 1))), (upd (upd (upd (upd pg ((s * 32 + l) * 4) (nI 9)) (((s * 32 + l) * 4) + 1) a) (((s * 32 + l) * 4) + 2) 0) (((s * 32 + l) * 4) + 3) 0), rc, sn, si, sf, tn, ti, tf, he, ou, fr)) (href : ¬ (nx_fit a 0 7 ∧ nx_fit b 0 (-1) ∧ nx_fit c 0 (-1)) → post 0 ((nI C), hc, md, (nI s), yec, yep, cs, ms, oc, uc, fc, ych, fk, pn, pi, ln, pg, rc, sn, si, sf, tn, ti, tf, he, ou, fr)) : wpY_emit post ((nI C), hc, md, (nI s), yec, yep, cs, ms, oc, uc, fc, ych, fk, pn, pi, ln, pg, rc, sn, si, sf, tn, ti, tf, he, ou, fr) (nI 9) a b c := by
  have cs1 : (nI s).toNatClampNeg = s := nI_clamp (by omega)
  have vs : vp_in (nI s) 4 := vp_in_nI hs (by decide)
  have Ac : (nx_fit a 0 7 ∧ nx_fit b 0 (-1) ∧ nx_fit c 0 (-1)) → wY_emit_330 post (nI 9) a 0 0 1 (nI C) hc md (nI s) yec yep cs ms oc uc fc ych fk pn pi ln pg rc sn si sf tn ti tf he ou fr := fun z => ye_330 hs hl (by omega) (fun _ => hok z) (fun e => absurd e (by decide))
  have Re : ¬ (nx_fit a 0 7 ∧ nx_fit b 0 (-1) ∧ nx_fit c 0 (-1)) → wY_emit_330 post (nI 9) a 0 0 0 (nI C) hc md (nI s) yec yep cs ms oc uc fc ych fk pn pi ln pg rc sn si sf tn ti tf he ou fr := fun z => ye_330 hs hl (by omega) (fun e => absurd rfl e) (fun _ => href z)
  unfold wpY_emit
  refine br_f (by decide) (br_f (by decide) ⟨vs, br_t (by rw [cs1, hl]; exact nI_lt hlC (by omega)) ?_⟩)
  refine br_f (by decide) (br_t (by decide) ?_)
  unfold wY_emit_50
  exact yl_loc (fun fa => Ac ⟨fa, Or.inl rfl, Or.inl rfl⟩) (fun fa => Re (fun z => fa z.1))
end
section
variable {cc hc md sel cs ec ep ms oc fc uc : Int32} {fk pn pi ln pg so ed he fr ou : Nat → Int32} {s C : Nat}
theorem xm_A0 : ∀ P : Int32 → Prop, P 7 → wpX_mostOfA P ((nI C), hc, md, (nI s), cs, ec, ep, ms, oc, fc, uc, fk, pn, pi, ln, pg, so, ed, he, fr, ou) (nI 0) := by
  intro P p
  unfold wpX_mostOfA
  exact br_f (by decide) (br_f (by decide) p)
theorem xm_B0 : ∀ P : Int32 → Prop, P (-1) → wpX_mostOfB P ((nI C), hc, md, (nI s), cs, ec, ep, ms, oc, fc, uc, fk, pn, pi, ln, pg, so, ed, he, fr, ou) (nI 0) := by
  intro P p
  unfold wpX_mostOfB
  exact br_t (by decide) p
theorem xm_C0 : ∀ P : Int32 → Prop, P (-1) → wpX_mostOfC P (nI 0) := by
  intro P p
  unfold wpX_mostOfC
  exact br_t (by decide) p
theorem xm_A1 : ∀ P : Int32 → Prop, P 7 → wpX_mostOfA P ((nI C), hc, md, (nI s), cs, ec, ep, ms, oc, fc, uc, fk, pn, pi, ln, pg, so, ed, he, fr, ou) (nI 1) := by
  intro P p
  unfold wpX_mostOfA
  exact br_f (by decide) (br_f (by decide) p)
theorem xm_B1 : ∀ P : Int32 → Prop, P 7 → wpX_mostOfB P ((nI C), hc, md, (nI s), cs, ec, ep, ms, oc, fc, uc, fk, pn, pi, ln, pg, so, ed, he, fr, ou) (nI 1) := by
  intro P p
  unfold wpX_mostOfB
  exact br_f (by decide) (br_f (by decide) (br_t (by decide) p))
theorem xm_C1 : ∀ P : Int32 → Prop, P (-1) → wpX_mostOfC P (nI 1) := by
  intro P p
  unfold wpX_mostOfC
  exact br_t (by decide) p
theorem xm_A2 : ∀ P : Int32 → Prop, P 7 → wpX_mostOfA P ((nI C), hc, md, (nI s), cs, ec, ep, ms, oc, fc, uc, fk, pn, pi, ln, pg, so, ed, he, fr, ou) (nI 2) := by
  intro P p
  unfold wpX_mostOfA
  exact br_f (by decide) (br_f (by decide) p)
theorem xm_B2 : ∀ P : Int32 → Prop, P 3 → wpX_mostOfB P ((nI C), hc, md, (nI s), cs, ec, ep, ms, oc, fc, uc, fk, pn, pi, ln, pg, so, ed, he, fr, ou) (nI 2) := by
  intro P p
  unfold wpX_mostOfB
  exact br_f (by decide) (br_f (by decide) (br_f (by decide) (br_t (by decide) p)))
theorem xm_C2 : ∀ P : Int32 → Prop, P 7 → wpX_mostOfC P (nI 2) := by
  intro P p
  unfold wpX_mostOfC
  exact br_f (by decide) (br_f (by decide) (br_t (by decide) p))
theorem xm_A3 : ∀ P : Int32 → Prop, P 7 → wpX_mostOfA P ((nI C), hc, md, (nI s), cs, ec, ep, ms, oc, fc, uc, fk, pn, pi, ln, pg, so, ed, he, fr, ou) (nI 3) := by
  intro P p
  unfold wpX_mostOfA
  exact br_f (by decide) (br_f (by decide) p)
theorem xm_B3 : ∀ P : Int32 → Prop, P 7 → wpX_mostOfB P ((nI C), hc, md, (nI s), cs, ec, ep, ms, oc, fc, uc, fk, pn, pi, ln, pg, so, ed, he, fr, ou) (nI 3) := by
  intro P p
  unfold wpX_mostOfB
  exact br_f (by decide) (br_f (by decide) (br_f (by decide) (br_f (by decide) (br_t (by decide) p))))
theorem xm_C3 : ∀ P : Int32 → Prop, P 3 → wpX_mostOfC P (nI 3) := by
  intro P p
  unfold wpX_mostOfC
  exact br_f (by decide) (br_f (by decide) (br_f (by decide) (br_t (by decide) p)))
theorem xm_A4 : ∀ P : Int32 → Prop, P 7 → wpX_mostOfA P ((nI C), hc, md, (nI s), cs, ec, ep, ms, oc, fc, uc, fk, pn, pi, ln, pg, so, ed, he, fr, ou) (nI 4) := by
  intro P p
  unfold wpX_mostOfA
  exact br_f (by decide) (br_f (by decide) p)
theorem xm_B4 : ∀ P : Int32 → Prop, P 3 → wpX_mostOfB P ((nI C), hc, md, (nI s), cs, ec, ep, ms, oc, fc, uc, fk, pn, pi, ln, pg, so, ed, he, fr, ou) (nI 4) := by
  intro P p
  unfold wpX_mostOfB
  exact br_f (by decide) (br_f (by decide) (br_f (by decide) (br_f (by decide) (br_f (by decide) (br_t (by decide) p)))))
theorem xm_C4 : ∀ P : Int32 → Prop, P 7 → wpX_mostOfC P (nI 4) := by
  intro P p
  unfold wpX_mostOfC
  exact br_f (by decide) (br_f (by decide) (br_f (by decide) (br_f (by decide) (br_t (by decide) p))))
theorem xm_A5 : ∀ P : Int32 → Prop, P 7 → wpX_mostOfA P ((nI C), hc, md, (nI s), cs, ec, ep, ms, oc, fc, uc, fk, pn, pi, ln, pg, so, ed, he, fr, ou) (nI 5) := by
  intro P p
  unfold wpX_mostOfA
  exact br_f (by decide) (br_f (by decide) p)
theorem xm_B5 : ∀ P : Int32 → Prop, P (nI C) → wpX_mostOfB P ((nI C), hc, md, (nI s), cs, ec, ep, ms, oc, fc, uc, fk, pn, pi, ln, pg, so, ed, he, fr, ou) (nI 5) := by
  intro P p
  unfold wpX_mostOfB
  exact br_f (by decide) (br_f (by decide) (br_f (by decide) (br_f (by decide) (br_f (by decide) (br_f (by decide) (br_t (by decide) p))))))
theorem xm_C5 : ∀ P : Int32 → Prop, P (-1) → wpX_mostOfC P (nI 5) := by
  intro P p
  unfold wpX_mostOfC
  exact br_f (by decide) (br_t (by decide) p)
theorem xm_A6 : ∀ P : Int32 → Prop, P 7 → wpX_mostOfA P ((nI C), hc, md, (nI s), cs, ec, ep, ms, oc, fc, uc, fk, pn, pi, ln, pg, so, ed, he, fr, ou) (nI 6) := by
  intro P p
  unfold wpX_mostOfA
  exact br_f (by decide) (br_f (by decide) p)
theorem xm_B6 : ∀ P : Int32 → Prop, P (nI C) → wpX_mostOfB P ((nI C), hc, md, (nI s), cs, ec, ep, ms, oc, fc, uc, fk, pn, pi, ln, pg, so, ed, he, fr, ou) (nI 6) := by
  intro P p
  unfold wpX_mostOfB
  exact br_f (by decide) (br_f (by decide) (br_f (by decide) (br_f (by decide) (br_f (by decide) (br_f (by decide) (br_f (by decide) (br_t (by decide) p)))))))
theorem xm_C6 : ∀ P : Int32 → Prop, P (-1) → wpX_mostOfC P (nI 6) := by
  intro P p
  unfold wpX_mostOfC
  exact br_f (by decide) (br_t (by decide) p)
theorem xm_A7 : ∀ P : Int32 → Prop, P (nI C) → wpX_mostOfA P ((nI C), hc, md, (nI s), cs, ec, ep, ms, oc, fc, uc, fk, pn, pi, ln, pg, so, ed, he, fr, ou) (nI 7) := by
  intro P p
  unfold wpX_mostOfA
  exact br_f (by decide) (br_t (by decide) p)
theorem xm_B7 : ∀ P : Int32 → Prop, P (-1) → wpX_mostOfB P ((nI C), hc, md, (nI s), cs, ec, ep, ms, oc, fc, uc, fk, pn, pi, ln, pg, so, ed, he, fr, ou) (nI 7) := by
  intro P p
  unfold wpX_mostOfB
  exact br_f (by decide) (br_t (by decide) p)
theorem xm_C7 : ∀ P : Int32 → Prop, P (-1) → wpX_mostOfC P (nI 7) := by
  intro P p
  unfold wpX_mostOfC
  exact br_f (by decide) (br_t (by decide) p)
theorem xm_A8 : ∀ P : Int32 → Prop, P (-1) → wpX_mostOfA P ((nI C), hc, md, (nI s), cs, ec, ep, ms, oc, fc, uc, fk, pn, pi, ln, pg, so, ed, he, fr, ou) (nI 8) := by
  intro P p
  unfold wpX_mostOfA
  exact br_t (by decide) p
theorem xm_B8 : ∀ P : Int32 → Prop, P (-1) → wpX_mostOfB P ((nI C), hc, md, (nI s), cs, ec, ep, ms, oc, fc, uc, fk, pn, pi, ln, pg, so, ed, he, fr, ou) (nI 8) := by
  intro P p
  unfold wpX_mostOfB
  exact br_f (by decide) (br_t (by decide) p)
theorem xm_C8 : ∀ P : Int32 → Prop, P (-1) → wpX_mostOfC P (nI 8) := by
  intro P p
  unfold wpX_mostOfC
  exact br_f (by decide) (br_t (by decide) p)
theorem xm_A9 : ∀ P : Int32 → Prop, P 7 → wpX_mostOfA P ((nI C), hc, md, (nI s), cs, ec, ep, ms, oc, fc, uc, fk, pn, pi, ln, pg, so, ed, he, fr, ou) (nI 9) := by
  intro P p
  unfold wpX_mostOfA
  exact br_f (by decide) (br_f (by decide) p)
theorem xm_B9 : ∀ P : Int32 → Prop, P (-1) → wpX_mostOfB P ((nI C), hc, md, (nI s), cs, ec, ep, ms, oc, fc, uc, fk, pn, pi, ln, pg, so, ed, he, fr, ou) (nI 9) := by
  intro P p
  unfold wpX_mostOfB
  exact br_f (by decide) (br_t (by decide) p)
theorem xm_C9 : ∀ P : Int32 → Prop, P (-1) → wpX_mostOfC P (nI 9) := by
  intro P p
  unfold wpX_mostOfC
  exact br_f (by decide) (br_t (by decide) p)
end
