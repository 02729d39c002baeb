/-! a block is solved, both sides at once -/
theorem nn_s0 (b : Nat) : (nI b * 33 + 0) * 8 = nI (b * 264) := by
  have e := nn_st b 0
  rw [nI_0] at e
  rw [e]
  exact congrArg nI (by omega)
theorem nn_kk (R r g : Int32) : (if (if R = 0 then r else 1) = 0 then g else 1) = if R = 0 then (if r = 0 then g else 1) else 1 := by
  by_cases z : R = 0
  · rw [if_pos z, if_pos z]
  · rw [if_neg z, if_neg z, if_neg (by decide)]
section
variable {cc hc md sel cs ec ep ms oc fc uc : Int32} {fk pn pi ln pg he fr ou : Nat → Int32} {b C : Nat} {L : Nat → Nat}
theorem sv_in (hb : b < 4) (hC : C ≤ 32) (hde : nv_de fk pn pi) (hln : nv_ln L C ln) (hpg : nv_pg L pg) : ∀ (d p : Nat), p + d = L b → ∀ (so ed rc sn si sf tn ti tf : Nat → Int32) (g : Int32), nr_S (b + 1) L so rc sn si sf → ∃ (R : Int32) (so' ed' rc' sn' si' sf' tn' ti' tf' : Nat → Int32), nr_go b so rc sn si sf so' rc' sn' si' sf' R ∧ (∀ (post : SX → Prop) (J : Int32 → Int32 → Int32 → Int32 → Int32 → Int32 → Int32 → Int32 → Int32 → Int32 → Int32 → Int32 → Int32 → (Nat → Int32) → (Nat → Int32) → (Nat → Int32) → (Nat → Int32) → (Nat → Int32) → (Nat → Int32) → (Nat → Int32) → (Nat → Int32) → (Nat → Int32) → (Nat → Int32) → Prop) (x3 : Int32), J (if R = 0 then g else 1) (x3 + 1) cc hc md sel cs ec ep ms oc fc uc fk pn pi ln pg so' ed' he fr ou → wX_solve_19 post J (nI b) x3 (d + 1) g (nI p) cc hc md sel cs ec ep ms oc fc uc fk pn pi ln pg so ed he fr ou) ∧ (∀ (yec yep : Int32) (post : SY → Prop) (J : Int32 → Int32 → Int32 → Int32 → Int32 → Int32 → Int32 → Int32 → Int32 → Int32 → Int32 → Int32 → Int32 → (Nat → Int32) → (Nat → Int32) → (Nat → Int32) → (Nat → Int32) → (Nat → Int32) → (Nat → Int32) → (Nat → Int32) → (Nat → Int32) → (Nat → Int32) → (Nat → Int32) → (Nat → Int32) → (Nat → Int32) → (Nat → Int32) → (Nat → Int32) → (Nat → Int32) → Prop) (x3 : Int32), J (x3 + 1) cc hc md sel yec yep cs ms oc uc fc (if R = 0 then g else 1) fk pn pi ln pg rc' sn' si' sf' tn' ti' tf' he ou fr → wY_solve_134 post J (nI b) x3 (d + 1) (nI p) cc hc md sel yec yep cs ms oc uc fc g fk pn pi ln pg rc sn si sf tn ti tf he ou fr) := by
  obtain ⟨hlb, hl2⟩ := hln b hb
  have cb : (nI b).toNatClampNeg = b := nI_clamp (by omega)
  have vb : vp_in (nI b) 4 := vp_in_nI hb (by decide)
  intro d
  induction d with
  | zero =>
    intro p hpd so ed rc sn si sf tn ti tf g hS
    refine ⟨0, so, ed, rc, sn, si, sf, tn, ti, tf, nr_go0, fun post J x3 h => ?_, fun yec yep post J x3 h => ?_⟩
    · rw [if_pos rfl] at h
      rw [wX_solve_19]
      refine ⟨vb, ?_⟩
      rw [cb, hlb]
      exact br_t (nI_le (by omega) (by omega)) (nm_e h)
    · rw [if_pos rfl] at h
      rw [wY_solve_134]
      refine ⟨vb, ?_⟩
      rw [cb, hlb]
      exact br_t (nI_le (by omega) (by omega)) (nm_e h)
  | succ d ih =>
    intro p hpd so ed rc sn si sf tn ti tf g hS
    have hq := hS b (by omega) p (by omega)
    have ngt : ¬ nI (L b) ≤ nI p := nI_ge (by omega) (by omega)
    obtain ⟨hrs, h01⟩ := nr_pt1 hq
    have c1 : (nI ((b * 33 + p) * 8)).toNatClampNeg = (b * 33 + p) * 8 := nI_clamp (by omega)
    have c2 : (nI (b * 33 + p)).toNatClampNeg = b * 33 + p := nI_clamp (by omega)
    have v1 : vp_in (nI ((b * 33 + p) * 8)) 1056 := vp_in_nI (by omega) (by decide)
    have v2 : vp_in (nI (b * 33 + p)) 132 := vp_in_nI (by omega) (by decide)
    rcases h01 with z | z
    · obtain ⟨R, so', ed', rc', sn', si', sf', tn', ti', tf', hg, hX, hY⟩ := ih (p + 1) (by omega) so ed rc sn si sf tn ti tf g hS
      refine ⟨R, so', ed', rc', sn', si', sf', tn', ti', tf', hg, fun post J x3 h => ?_, fun yec yep post J x3 h => ?_⟩
      · rw [wX_solve_19]
        refine ⟨vb, ?_⟩
        rw [cb, hlb]
        refine br_f ngt ?_
        unfold wpX_isReached wpX_stateAt
        rw [nn_st]
        refine ⟨v1, ?_⟩
        rw [c1]
        exact br_t (hrs.mpr z) (br_t rfl (nm_r (nI_1 p) (hX post J x3 h)))
      · rw [wY_solve_134]
        refine ⟨vb, ?_⟩
        rw [cb, hlb]
        refine br_f ngt ?_
        rw [nn_m33, nI_add, c2]
        exact ⟨v2, br_t z (nm_r (nI_1 p) (hY yec yep post J x3 h))⟩
    · obtain ⟨r, so1, ed1, rc1, sn1, si1, sf1, tn1, ti1, tf1, hg1, hX1, hY1⟩ := fl_both (ed := ed) (tn := tn) (ti := ti) (tf := tf) (cc := cc) (hc := hc) (md := md) (sel := sel) (cs := cs) (ec := ec) (ep := ep) (ms := ms) (oc := oc) (fc := fc) (uc := uc) (he := he) (fr := fr) (ou := ou) hb hC hde hln hpg (show p < L b by omega) hS z
      have hS1 : nr_S (b + 1) L so1 rc1 sn1 si1 sf1 := fun b' hb' p' hp' => hg1.2.1 _ (hS b' hb' p' hp')
      obtain ⟨R, so', ed', rc', sn', si', sf', tn', ti', tf', hg, hX, hY⟩ := ih (p + 1) (by omega) so1 ed1 rc1 sn1 si1 sf1 tn1 ti1 tf1 (if r = 0 then g else 1) hS1
      refine ⟨if R = 0 then r else 1, so', ed', rc', sn', si', sf', tn', ti', tf', nr_goT hg1 hg, fun post J x3 h => ?_, fun yec yep post J x3 h => ?_⟩
      · rw [nn_kk] at h
        have q := hX post J x3 h
        rw [wX_solve_19]
        refine ⟨vb, ?_⟩
        rw [cb, hlb]
        refine br_f ngt ?_
        unfold wpX_isReached wpX_stateAt
        rw [nn_st]
        refine ⟨v1, ?_⟩
        rw [c1]
        refine br_f (fun e => absurd ((hrs.mp e).symm.trans z) (by decide)) (br_f (by decide) (hX1 _ (br_c (fun e => nm_r (nI_1 p) ?_) (fun e => nm_r (nI_1 p) ?_))))
        · rw [if_pos e] at q
          exact q
        · rw [if_neg e] at q
          exact q
      · rw [nn_kk] at h
        rw [wY_solve_134]
        refine ⟨vb, ?_⟩
        rw [cb, hlb]
        refine br_f ngt ?_
        rw [nn_m33, nI_add, c2]
        exact ⟨v2, br_f (by rw [z]; decide) (hY1 yec yep g _ (nm_r (nI_1 p) (hY yec yep post J x3 h)))⟩
theorem sv_out (hb : b < 4) (hC : C ≤ 32) (hde : nv_de fk pn pi) (hln : nv_ln L C ln) (hpg : nv_pg L pg) : ∀ (m k : Nat), k + m < 1950 → ∀ (so ed rc sn si sf tn ti tf : Nat → Int32), nr_mu so b < m → nr_S (b + 1) L so rc sn si sf → ∃ (so' ed' rc' sn' si' sf' tn' ti' tf' : Nat → Int32), nr_S (b + 1) L so' rc' sn' si' sf' ∧ (∀ j, j < b * 264 → so' j = so j) ∧ (∀ j, b * 33 + 33 ≤ j → rc' j = rc j) ∧ (∀ post : SX → Prop, post (cc, hc, md, sel, cs, ec, ep, ms, oc, fc, uc, fk, pn, pi, ln, pg, so', ed', he, fr, ou) → ∃ n, wX_solve_4 post (nI b) n 1 (nI k) cc hc md sel cs ec ep ms oc fc uc fk pn pi ln pg so ed he fr ou) ∧ (∀ (yec yep : Int32) (post : SY → Prop), post (cc, hc, md, sel, yec, yep, cs, ms, oc, uc, fc, 0, fk, pn, pi, ln, pg, rc', sn', si', sf', tn', ti', tf', he, ou, fr) → ∃ n, wY_solve_112 post (nI b) n (nI k) cc hc md sel yec yep cs ms oc uc fc 1 fk pn pi ln pg rc sn si sf tn ti tf he ou fr) := by
  intro m
  induction m with
  | zero =>
    intro k hk so ed rc sn si sf tn ti tf hmu
    omega
  | succ m ih =>
    intro k hk so ed rc sn si sf tn ti tf hmu hS
    obtain ⟨R, so1, ed1, rc1, sn1, si1, sf1, tn1, ti1, tf1, hg, hX, hY⟩ := sv_in (cc := cc) (hc := hc) (md := md) (sel := sel) (cs := cs) (ec := ec) (ep := ep) (ms := ms) (oc := oc) (fc := fc) (uc := uc) (he := he) (fr := fr) (ou := ou) hb hC hde hln hpg (L b) 0 (by omega) so ed rc sn si sf tn ti tf 0 hS
    have hS1 : nr_S (b + 1) L so1 rc1 sn1 si1 sf1 := fun b' hb' p' hp' => hg.2.1 _ (hS b' hb' p' hp')
    have nX : ¬ (1000000 : Int32) ≤ nI k := nI_ge (b := 1000000) (by omega) (by decide)
    have nY : ¬ (2000 : Int32) ≤ nI k := nI_ge (b := 2000) (by omega) (by decide)
    have nY1 : ¬ (2000 : Int32) ≤ nI (k + 1) := nI_ge (b := 2000) (by omega) (by decide)
    rcases hg.1 with z | z
    · rw [z] at hX hY
      refine ⟨so1, ed1, rc1, sn1, si1, sf1, tn1, ti1, tf1, hS1, hg.2.2.2.2.1, hg.2.2.2.2.2, fun post h => ⟨2, ?_⟩, fun yec yep post h => ⟨2, ?_⟩⟩
      · rw [wX_solve_4]
        refine br_f (by decide) (br_f nX ⟨L b + 1, hX post _ (nI k) ?_⟩)
        rw [if_pos rfl, wX_solve_4]
        exact br_t rfl h
      · rw [wY_solve_112]
        refine br_f nY (br_f (by decide) ⟨L b + 1, hY yec yep post _ (nI k) ?_⟩)
        rw [if_pos rfl, wY_solve_112, nI_1]
        exact br_f nY1 (br_t rfl h)
    · have hm := (nr_muG hg).2 z
      obtain ⟨so', ed', rc', sn', si', sf', tn', ti', tf', hS', hl, hr, hX', hY'⟩ := ih (k + 1) (by omega) so1 ed1 rc1 sn1 si1 sf1 tn1 ti1 tf1 (by omega) hS1
      rw [z] at hX hY
      refine ⟨so', ed', rc', sn', si', sf', tn', ti', tf', hS', fun j hj => (hl j hj).trans (hg.2.2.2.2.1 j hj), fun j hj => (hr j hj).trans (hg.2.2.2.2.2 j hj), fun post h => ?_, fun yec yep post h => ?_⟩
      · obtain ⟨n, hn⟩ := hX' post h
        refine ⟨n + 1, ?_⟩
        rw [wX_solve_4]
        refine br_f (by decide) (br_f nX ⟨L b + 1, hX post _ (nI k) ?_⟩)
        rw [if_neg (by decide), nI_1]
        exact hn
      · obtain ⟨n, hn⟩ := hY' yec yep post h
        refine ⟨n + 1, ?_⟩
        rw [wY_solve_112]
        refine br_f nY (br_f (by decide) ⟨L b + 1, hY yec yep post _ (nI k) ?_⟩)
        rw [if_neg (by decide), nI_1]
        exact hn
end
section
variable {cc hc md sel cs ec ep ms oc fc uc : Int32} {fk pn pi ln pg so ed he fr ou : Nat → Int32} {b : Nat} {L : Nat → Nat}
theorem xw_enter (hb : b < 4) (hlb : ln b = nI (L b)) (hl2 : L b ≤ 32) {post : SX → Prop} (h0 : b = 0 → post (cc, hc, md, sel, cs, ec, ep, ms, oc, fc, uc, fk, pn, pi, ln, pg, (na_fi (na_fi so (b * 264) ((L b + 1) * 8) (-1)) (b * 264) 8 1), ed, he, fr, ou)) (hK : b ≠ 0 → post (cc, hc, md, sel, cs, ec, ep, ms, oc, fc, uc, fk, pn, pi, ln, pg, (upd (upd (na_fi (na_fi so (b * 264) ((L b + 1) * 8) (-1)) (b * 264) 8 1) (b * 264) 2) (b * 264 + 1) (pn b + 2 * pi b)), ed, he, fr, ou)) : wpX_enter post (cc, hc, md, sel, cs, ec, ep, ms, oc, fc, uc, fk, pn, pi, ln, pg, so, ed, he, fr, ou) (nI b) := by
  have cb : (nI b).toNatClampNeg = b := nI_clamp (by omega)
  have vb : vp_in (nI b) 4 := vp_in_nI hb (by decide)
  have K2 : ∀ d i, i + d = 8 → wX_enter_46 post (nI b) (nI (b * 264)) cc hc md sel cs ec ep ms oc fc uc (d + 1) (nI i) fk pn pi ln pg (na_fi (na_fi so (b * 264) ((L b + 1) * 8) (-1)) (b * 264) i 1) ed he fr ou := by
    intro d
    induction d with
    | zero =>
      intro i hi
      obtain rfl : i = 8 := by omega
      rw [wX_enter_46]
      refine br_t (by decide) (br_c (fun e => h0 ?_) (fun e => ?_))
      · exact (nl_eq0 (by omega)).mp e
      · have k := hK (fun z => e ((nl_eq0 (by omega)).mpr z))
        rw [nn_a1, cb, nI_clamp (by omega), nI_clamp (by omega)]
        exact ⟨vp_in_nI (by omega) (by decide), nm_e ⟨vb, vb, vp_in_nI (by omega) (by decide), nm_e k⟩⟩
    | succ d ih =>
      intro i hi
      rw [wX_enter_46]
      refine br_f (nn_nge 8 (by omega) (by decide)) ⟨nn_inA (by omega) (by decide), nm_r ?_ (nm_r (nI_1 i) (ih (i + 1) (by omega)))⟩
      rw [nn_clA (by omega), na_fiS]
  have K1 : ∀ d i, i + d = (L b + 1) * 8 → wX_enter_21 post (nI b) (nI (b * 264)) (nI ((L b + 1) * 8)) cc hc md sel cs ec ep ms oc fc uc (d + 1) (nI i) fk pn pi ln pg (na_fi so (b * 264) i (-1)) ed he fr ou := by
    intro d
    induction d with
    | zero =>
      intro i hi
      obtain rfl : i = (L b + 1) * 8 := by omega
      rw [wX_enter_21]
      have q := K2 8 0 (by omega)
      rw [na_fi0] at q
      exact br_t (nI_le (Nat.le_refl _) (by omega)) ⟨9, q⟩
    | succ d ih =>
      intro i hi
      rw [wX_enter_21]
      refine br_f (nI_ge (by omega) (by omega)) ⟨nn_inA (by omega) (by decide), nm_r ?_ (nm_r (nI_1 i) (ih (i + 1) (by omega)))⟩
      rw [nn_clA (by omega), na_fiS]
  unfold wpX_enter wpX_stateAt
  rw [nn_s0]
  refine ⟨vb, nm_r (e' := nI ((L b + 1) * 8)) ?_ ⟨(L b + 1) * 8 + 1, ?_⟩⟩
  · rw [cb, hlb, nn_a1, nn_m8]
  · have q := K1 ((L b + 1) * 8) 0 (by omega)
    rw [na_fi0] at q
    exact q
end
section
variable {cc hc md sel yec yep cs ms oc uc fc ych : Int32} {fk pn pi ln pg rc sn si sf tn ti tf he ou fr : Nat → Int32} {b : Nat}
theorem yw_solve (hb : b < 4) {post : SY → Prop} (h0 : b = 0 → ∃ n, wY_solve_112 post (nI b) n 0 cc hc md sel yec yep cs ms oc uc fc 1 fk pn pi ln pg (upd rc (b * 33) 1) (na_fi sn (b * 264) 8 1) (na_fi si (b * 264) 8 0) (na_fi sf (b * 264) 8 0) tn ti tf he ou fr) (hK : b ≠ 0 → ∃ n, wY_solve_112 post (nI b) n 0 cc hc md sel yec yep cs ms oc uc fc 1 fk pn pi ln pg (upd rc (b * 33) 1) (upd (upd (na_fi sn (b * 264) 8 1) (b * 264) 0) (b * 264 + 1) (pn b)) (upd (upd (na_fi si (b * 264) 8 0) (b * 264) 1) (b * 264 + 1) (pi b)) (na_fi sf (b * 264) 8 0) tn ti tf he ou fr) : wpY_solve post (cc, hc, md, sel, yec, yep, cs, ms, oc, uc, fc, ych, fk, pn, pi, ln, pg, rc, sn, si, sf, tn, ti, tf, he, ou, fr) (nI b) := by
  have cb : (nI b).toNatClampNeg = b := nI_clamp (by omega)
  have vb : vp_in (nI b) 4 := vp_in_nI hb (by decide)
  have v0 : vp_in (nI (b * 264)) 1056 := vp_in_nI (by omega) (by decide)
  have v1 : vp_in (nI (b * 264 + 1)) 1056 := vp_in_nI (by omega) (by decide)
  have c0 : (nI (b * 264)).toNatClampNeg = b * 264 := nI_clamp (by omega)
  have c1 : (nI (b * 264 + 1)).toNatClampNeg = b * 264 + 1 := nI_clamp (by omega)
  have K : ∀ d i, i + d = 8 → wY_solve_20 post (nI b) (nI (b * 264)) cc hc md sel yec yep cs ms oc uc fc ych (d + 1) (nI i) fk pn pi ln pg (upd rc (b * 33) 1) (na_fi sn (b * 264) i 1) (na_fi si (b * 264) i 0) (na_fi sf (b * 264) i 0) tn ti tf he ou fr := by
    intro d
    induction d with
    | zero =>
      intro i hi
      obtain rfl : i = 8 := by omega
      rw [wY_solve_20]
      refine br_t (by decide) (br_c (fun e => h0 ?_) (fun e => ?_))
      · have := (nl_le0 (by omega)).mp e
        omega
      · have k := hK (fun z => e ((nl_le0 (by omega)).mpr (by omega)))
        rw [nn_a1, cb, c0, c1]
        exact ⟨v0, nm_e ⟨v0, nm_e ⟨vb, v1, nm_e ⟨vb, v1, nm_e k⟩⟩⟩⟩
    | succ d ih =>
      intro i hi
      rw [wY_solve_20]
      have v2 : vp_in (nI (b * 264) + nI i) 1056 := nn_inA (by omega) (by decide)
      refine br_f (nn_nge 8 (by omega) (by decide)) ?_
      rw [nn_clA (by omega)]
      exact ⟨v2, nm_r (na_fiS sn (b * 264) i 1).symm ⟨v2, nm_r (na_fiS si (b * 264) i 0).symm ⟨v2, nm_r (na_fiS sf (b * 264) i 0).symm (nm_r (nI_1 i) (ih (i + 1) (by omega)))⟩⟩⟩
  unfold wpY_solve
  refine nm_r (e' := nI (b * 264)) ?_ ?_
  · rw [nn_m33, nn_m8]
    exact congrArg nI (by omega)
  · rw [nn_m33, nI_clamp (by omega), nn_nb1]
    have q := K 8 0 (by omega)
    rw [na_fi0, na_fi0, na_fi0] at q
    exact ⟨vp_in_nI (by omega) (by decide), nm_e ⟨9, q⟩⟩
end
section
variable {cc hc md sel cs ec ep ms oc fc uc : Int32} {fk pn pi ln pg so ed he fr ou rc sn si sf tn ti tf : Nat → Int32} {b C : Nat} {L : Nat → Nat}
theorem sv_both (hb : b < 4) (hC : C ≤ 32) (hde : nv_de fk pn pi) (hln : nv_ln L C ln) (hpg : nv_pg L pg) (hS : nr_S b L so rc sn si sf) (hz : ∀ j, b * 33 ≤ j → j < 132 → rc j = 0) : ∃ (so1 so' ed' rc' sn' si' sf' tn' ti' tf' : Nat → Int32), nr_S (b + 1) L so' rc' sn' si' sf' ∧ (∀ j, j < b * 264 → so' j = so j) ∧ (∀ j, b * 33 + 33 ≤ j → j < 132 → rc' j = 0) ∧ (∀ post : SX → Prop, post (cc, hc, md, sel, cs, ec, ep, ms, oc, fc, uc, fk, pn, pi, ln, pg, so1, ed, he, fr, ou) → wpX_enter post (cc, hc, md, sel, cs, ec, ep, ms, oc, fc, uc, fk, pn, pi, ln, pg, so, ed, he, fr, ou) (nI b)) ∧ (∀ post : SX → Prop, post (cc, hc, md, sel, cs, ec, ep, ms, oc, fc, uc, fk, pn, pi, ln, pg, so', ed', he, fr, ou) → wpX_solve post (cc, hc, md, sel, cs, ec, ep, ms, oc, fc, uc, fk, pn, pi, ln, pg, so1, ed, he, fr, ou) (nI b)) ∧ (∀ (yec yep ych : Int32) (post : SY → Prop), post (cc, hc, md, sel, yec, yep, cs, ms, oc, uc, fc, 0, fk, pn, pi, ln, pg, rc', sn', si', sf', tn', ti', tf', he, ou, fr) → wpY_solve post (cc, hc, md, sel, yec, yep, cs, ms, oc, uc, fc, ych, fk, pn, pi, ln, pg, rc, sn, si, sf, tn, ti, tf, he, ou, fr) (nI b)) := by
  have hL : ∀ j, j < 4 → L j ≤ 32 := fun j hj => by
    have := (hln j hj).2
    omega
  obtain ⟨hlb, hl2⟩ := hln b hb
  obtain ⟨so1, sn1, si1, sf1, hS1, hlow, hXe, hYe⟩ : ∃ (so1 sn1 si1 sf1 : Nat → Int32), nr_S (b + 1) L so1 (upd rc (b * 33) 1) sn1 si1 sf1 ∧ (∀ j, j < b * 264 → so1 j = so j) ∧ (∀ post : SX → Prop, post (cc, hc, md, sel, cs, ec, ep, ms, oc, fc, uc, fk, pn, pi, ln, pg, so1, ed, he, fr, ou) → wpX_enter post (cc, hc, md, sel, cs, ec, ep, ms, oc, fc, uc, fk, pn, pi, ln, pg, so, ed, he, fr, ou) (nI b)) ∧ (∀ (yec yep ych : Int32) (post : SY → Prop), (∃ n, wY_solve_112 post (nI b) n 0 cc hc md sel yec yep cs ms oc uc fc 1 fk pn pi ln pg (upd rc (b * 33) 1) sn1 si1 sf1 tn ti tf he ou fr) → wpY_solve post (cc, hc, md, sel, yec, yep, cs, ms, oc, uc, fc, ych, fk, pn, pi, ln, pg, rc, sn, si, sf, tn, ti, tf, he, ou, fr) (nI b)) := by
    by_cases e : b = 0
    · subst e
      refine ⟨_, _, _, _, nr_ent0 (so := so) (sn := sn) (si := si) (sf := sf) hL (fun j h1 h2 => hz j (by omega) h2), fun j hj => absurd hj (by omega), fun post h => xw_enter hb hlb (by omega) (fun _ => h) (fun z => absurd rfl z), fun yec yep ych post h => yw_solve hb (fun _ => h) (fun z => absurd rfl z)⟩
    · refine ⟨_, _, _, _, nr_entK (n := pn b) (i := pi b) hS hL hb (fun j h1 h2 => hz j (by omega) h2) (hde.2.1 b hb) (hde.2.2 b hb), fun j hj => ?_, fun post h => xw_enter hb hlb (by omega) (fun z => absurd z e) (fun _ => h), fun yec yep ych post h => yw_solve hb (fun z => absurd z e) (fun _ => h)⟩
      rw [pk_un (by omega), pk_un (by omega), na_fiO (by omega), na_fiO (by omega)]
  obtain ⟨so', ed', rc', sn', si', sf', tn', ti', tf', hS', hl, hr, hX', hY'⟩ := sv_out (cc := cc) (hc := hc) (md := md) (sel := sel) (cs := cs) (ec := ec) (ep := ep) (ms := ms) (oc := oc) (fc := fc) (uc := uc) (he := he) (fr := fr) (ou := ou) hb hC hde hln hpg 1849 0 (by omega) so1 ed (upd rc (b * 33) 1) sn1 si1 sf1 tn ti tf (by have := nr_muB so1 b; omega) hS1
  refine ⟨so1, so', ed', rc', sn', si', sf', tn', ti', tf', hS', fun j hj => (hl j hj).trans (hlow j hj), fun j h1 h2 => ?_, hXe, fun post h => ?_, fun yec yep ych post h => ?_⟩
  · rw [hr j h1, pk_un (by omega)]
    exact hz j (by omega) h2
  · unfold wpX_solve
    exact hX' post h
  · exact hYe yec yep ych post (hY' yec yep post h)
end
