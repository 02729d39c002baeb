/-! the reference's checker, a method at a time -/
section
variable {cc hc md sel yec yep cs ms oc uc fc ych : Int32} {fk pn pi ln pg rc sn si sf tn ti tf he ou fr : Nat → Int32}
theorem yw_mask {post : Int32 → Prop} (h : post (ne_ym fk 4)) : wpY_nonnullMask post (cc, hc, md, sel, yec, yep, cs, ms, oc, uc, fc, ych, fk, pn, pi, ln, pg, rc, sn, si, sf, tn, ti, tf, he, ou, fr) := by
  have K : ∀ d i, i + d = 4 → wY_nonnullMask_4 post cc hc md sel yec yep cs ms oc uc fc ych fk pn pi ln pg rc sn si sf tn ti tf he ou fr (d + 1) (ne_ym fk i) (nI i) := by
    intro d
    induction d with
    | zero =>
      intro i hi
      obtain rfl : i = 4 := by omega
      rw [wY_nonnullMask_4]
      exact br_t (by decide) h
    | succ d ih =>
      intro i hi
      rw [wY_nonnullMask_4]
      have q := ih (i + 1) (by omega)
      refine br_f (nn_nge 4 (by omega) (by decide)) ⟨vp_in_nI (by omega) (by decide), br_c (fun e => ?_) (fun e => ?_)⟩
      · rw [nI_clamp (by omega)] at e
        rw [ne_ym, if_pos e] at q
        exact nm_e (nm_r (nI_1 i) q)
      · rw [nI_clamp (by omega)] at e
        rw [ne_ym, if_neg e] at q
        exact nm_r (nI_1 i) q
  unfold wpY_nonnullMask
  exact ⟨5, K 4 0 (by omega)⟩
theorem yw_load {b p : Nat} (hb : b < 4) (hp : p < 33) {post : SY → Prop} (h : post (cc, hc, md, sel, yec, yep, cs, ms, oc, uc, fc, ych, fk, pn, pi, ln, pg, rc, sn, si, sf, (na_ld sn tn ((b * 33 + p) * 8) 8), (na_ld si ti ((b * 33 + p) * 8) 8), (na_ld sf tf ((b * 33 + p) * 8) 8), he, ou, fr)) : wpY_load post (cc, hc, md, sel, yec, yep, cs, ms, oc, uc, fc, ych, fk, pn, pi, ln, pg, rc, sn, si, sf, tn, ti, tf, he, ou, fr) (nI b) (nI p) := by
  have K : ∀ d i, i + d = 8 → wY_load_2 post (nI b) (nI p) cc hc md sel yec yep cs ms oc uc fc ych (d + 1) (nI i) fk pn pi ln pg rc sn si sf (na_ld sn tn ((b * 33 + p) * 8) i) (na_ld si ti ((b * 33 + p) * 8) i) (na_ld sf tf ((b * 33 + p) * 8) i) he ou fr := by
    intro d
    induction d with
    | zero =>
      intro i hi
      obtain rfl : i = 8 := by omega
      rw [wY_load_2]
      exact br_t (by decide) h
    | succ d ih =>
      intro i hi
      rw [wY_load_2]
      have q := ih (i + 1) (by omega)
      have c1 : (nI ((b * 33 + p) * 8 + i)).toNatClampNeg = (b * 33 + p) * 8 + i := nI_clamp (by omega)
      have c2 : (nI i).toNatClampNeg = i := nI_clamp (by omega)
      refine br_f (nn_nge 8 (by omega) (by decide)) (nm_r (e' := nI ((b * 33 + p) * 8 + i)) (by rw [nn_st, nI_add]) ?_)
      rw [c1, c2]
      refine ⟨vp_in_nI (by omega) (by decide), vp_in_nI (by omega) (by decide), nm_r (na_ldS sn tn ((b * 33 + p) * 8) i).symm ⟨vp_in_nI (by omega) (by decide), vp_in_nI (by omega) (by decide), nm_r (na_ldS si ti ((b * 33 + p) * 8) i).symm ⟨vp_in_nI (by omega) (by decide), vp_in_nI (by omega) (by decide), nm_r (na_ldS sf tf ((b * 33 + p) * 8) i).symm (nm_r (nI_1 i) q)⟩⟩⟩
  unfold wpY_load
  refine ⟨9, ?_⟩
  have q := K 8 0 (by omega)
  rw [na_ld0, na_ld0, na_ld0] at q
  exact q
theorem yw_set {a : Nat} (ha : a < 8) {n i f : Int32} {post : SY → Prop} (h : post (cc, hc, md, sel, yec, yep, cs, ms, oc, uc, fc, ych, fk, pn, pi, ln, pg, rc, sn, si, sf, (upd tn a n), (upd ti a i), (upd tf a f), he, ou, fr)) : wpY_set post (cc, hc, md, sel, yec, yep, cs, ms, oc, uc, fc, ych, fk, pn, pi, ln, pg, rc, sn, si, sf, tn, ti, tf, he, ou, fr) (nI a) n i f := by
  unfold wpY_set
  rw [nI_clamp (by omega)]
  exact ⟨vp_in_nI ha (by decide), nm_e ⟨vp_in_nI ha (by decide), nm_e ⟨vp_in_nI ha (by decide), nm_e h⟩⟩⟩
theorem yw_join {b t : Nat} (hb : b < 4) (ht : t ≤ 32) {z : Int32} (hz : z = if rc (b * 33 + t) = 0 then 1 else 0) {post : SY → Prop} (h : post (cc, hc, md, sel, yec, yep, cs, ms, oc, uc, fc, (na_ch z (if z = 0 then ych else 1) sn si sf tn ti tf ((b * 33 + t) * 8) 8), fk, pn, pi, ln, pg, (upd rc (b * 33 + t) 1), (na_av (nc_yn z) sn tn ((b * 33 + t) * 8) 8), (na_av (nc_yi z) si ti ((b * 33 + t) * 8) 8), (na_av (nc_yf z) sf tf ((b * 33 + t) * 8) 8), tn, ti, tf, he, ou, fr)) : wpY_join post (cc, hc, md, sel, yec, yep, cs, ms, oc, uc, fc, ych, fk, pn, pi, ln, pg, rc, sn, si, sf, tn, ti, tf, he, ou, fr) (nI b) (nI t) := by
  have K : ∀ d i, i + d = 8 → wY_join_43 post (nI (b * 33 + t)) z cc hc md sel yec yep cs ms oc uc fc (d + 1) (nI i) (na_ch z (if z = 0 then ych else 1) sn si sf tn ti tf ((b * 33 + t) * 8) i) fk pn pi ln pg (upd rc (b * 33 + t) 1) (na_av (nc_yn z) sn tn ((b * 33 + t) * 8) i) (na_av (nc_yi z) si ti ((b * 33 + t) * 8) i) (na_av (nc_yf z) sf tf ((b * 33 + t) * 8) i) tn ti tf he ou fr := by
    intro d
    induction d with
    | zero =>
      intro i hi
      obtain rfl : i = 8 := by omega
      rw [wY_join_43]
      exact br_t (by decide) h
    | succ d ih =>
      intro i hi
      have q := ih (i + 1) (by omega)
      have c1 : (nI ((b * 33 + t) * 8 + i)).toNatClampNeg = (b * 33 + t) * 8 + i := nI_clamp (by omega)
      have c2 : (nI i).toNatClampNeg = i := nI_clamp (by omega)
      have v1 : vp_in (nI ((b * 33 + t) * 8 + i)) 1056 := vp_in_nI (by omega) (by decide)
      have v2 : vp_in (nI i) 8 := vp_in_nI (by omega) (by decide)
      have g1 : na_av (nc_yn z) sn tn ((b * 33 + t) * 8) i ((b * 33 + t) * 8 + i) = sn ((b * 33 + t) * 8 + i) := na_avO (by omega)
      have g2 : na_av (nc_yi z) si ti ((b * 33 + t) * 8) i ((b * 33 + t) * 8 + i) = si ((b * 33 + t) * 8 + i) := na_avO (by omega)
      have g3 : na_av (nc_yf z) sf tf ((b * 33 + t) * 8) i ((b * 33 + t) * 8 + i) = sf ((b * 33 + t) * 8 + i) := na_avO (by omega)
      have A228 : ∀ c, c = na_ch z (if z = 0 then ych else 1) sn si sf tn ti tf ((b * 33 + t) * 8) (i + 1) → wY_join_228 post (wY_join_43 post (nI (b * 33 + t)) z cc hc md sel yec yep cs ms oc uc fc (d + 1)) (nI (b * 33 + t)) z (nI i) (nI ((b * 33 + t) * 8 + i)) (nc_yn z (sn ((b * 33 + t) * 8 + i)) (tn i)) (nc_yi z (si ((b * 33 + t) * 8 + i)) (ti i)) (nc_yf z (sf ((b * 33 + t) * 8 + i)) (tf i)) cc hc md sel yec yep cs ms oc uc fc c fk pn pi ln pg (upd rc (b * 33 + t) 1) (na_av (nc_yn z) sn tn ((b * 33 + t) * 8) i) (na_av (nc_yi z) si ti ((b * 33 + t) * 8) i) (na_av (nc_yf z) sf tf ((b * 33 + t) * 8) i) tn ti tf he ou fr := by
        rintro c rfl
        unfold wY_join_228
        rw [c1]
        exact ⟨v1, nm_r (na_avS (nc_yn z) sn tn ((b * 33 + t) * 8) i).symm ⟨v1, nm_r (na_avS (nc_yi z) si ti ((b * 33 + t) * 8) i).symm ⟨v1, nm_r (na_avS (nc_yf z) sf tf ((b * 33 + t) * 8) i).symm (nm_r (nI_1 i) q)⟩⟩⟩
      have A185 : wY_join_185 post (wY_join_43 post (nI (b * 33 + t)) z cc hc md sel yec yep cs ms oc uc fc (d + 1)) (nI (b * 33 + t)) z (nI i) (nI ((b * 33 + t) * 8 + i)) (nc_yn z (sn ((b * 33 + t) * 8 + i)) (tn i)) (nc_yi z (si ((b * 33 + t) * 8 + i)) (ti i)) (nc_yf z (sf ((b * 33 + t) * 8 + i)) (tf i)) cc hc md sel yec yep cs ms oc uc fc (na_ch z (if z = 0 then ych else 1) sn si sf tn ti tf ((b * 33 + t) * 8) i) fk pn pi ln pg (upd rc (b * 33 + t) 1) (na_av (nc_yn z) sn tn ((b * 33 + t) * 8) i) (na_av (nc_yi z) si ti ((b * 33 + t) * 8) i) (na_av (nc_yf z) sf tf ((b * 33 + t) * 8) i) tn ti tf he ou fr := by
        unfold wY_join_185 wY_join_223
        rw [c1, g1, g2, g3]
        refine ⟨v1, br_c (fun e1 => ⟨v1, br_c (fun e2 => ⟨v1, br_c (fun e3 => A228 _ ?_) (fun e3 => A228 _ ?_)⟩) (fun e2 => A228 _ ?_)⟩) (fun e1 => A228 _ ?_)⟩
        · rw [na_ch]
          exact (if_pos ⟨e1, e2, e3⟩).symm
        · rw [na_ch, if_neg (fun e => e3 e.2.2)]
        · rw [na_ch, if_neg (fun e => e2 e.2.1)]
        · rw [na_ch, if_neg (fun e => e1 e.1)]
      have A153 : wY_join_153 post (wY_join_43 post (nI (b * 33 + t)) z cc hc md sel yec yep cs ms oc uc fc (d + 1)) (nI (b * 33 + t)) z (nI i) (nI ((b * 33 + t) * 8 + i)) (nc_yn z (sn ((b * 33 + t) * 8 + i)) (tn i)) (nc_yi z (si ((b * 33 + t) * 8 + i)) (ti i)) cc hc md sel yec yep cs ms oc uc fc (na_ch z (if z = 0 then ych else 1) sn si sf tn ti tf ((b * 33 + t) * 8) i) fk pn pi ln pg (upd rc (b * 33 + t) 1) (na_av (nc_yn z) sn tn ((b * 33 + t) * 8) i) (na_av (nc_yi z) si ti ((b * 33 + t) * 8) i) (na_av (nc_yf z) sf tf ((b * 33 + t) * 8) i) tn ti tf he ou fr := by
        unfold wY_join_153
        rw [c1, c2, g3]
        refine br_c (fun e => ⟨v1, v2, ?_⟩) (fun e => ⟨v2, ?_⟩)
        · have k : nc_yf z (sf ((b * 33 + t) * 8 + i)) (tf i) = sf ((b * 33 + t) * 8 + i) &&& tf i := if_pos e
          rw [← k]
          exact A185
        · have k : nc_yf z (sf ((b * 33 + t) * 8 + i)) (tf i) = tf i := if_neg e
          rw [k] at A185
          exact A185
      have A108 : wY_join_108 post (wY_join_43 post (nI (b * 33 + t)) z cc hc md sel yec yep cs ms oc uc fc (d + 1)) (nI (b * 33 + t)) z (nI i) (nI ((b * 33 + t) * 8 + i)) (nc_yn z (sn ((b * 33 + t) * 8 + i)) (tn i)) cc hc md sel yec yep cs ms oc uc fc (na_ch z (if z = 0 then ych else 1) sn si sf tn ti tf ((b * 33 + t) * 8) i) fk pn pi ln pg (upd rc (b * 33 + t) 1) (na_av (nc_yn z) sn tn ((b * 33 + t) * 8) i) (na_av (nc_yi z) si ti ((b * 33 + t) * 8) i) (na_av (nc_yf z) sf tf ((b * 33 + t) * 8) i) tn ti tf he ou fr := by
        unfold wY_join_108
        rw [c1, c2, g2]
        refine br_c (fun e => ⟨v1, v2, br_c (fun e2 => ⟨v1, ?_⟩) (fun e2 => ?_)⟩) (fun e => ⟨v2, ?_⟩)
        · have k : nc_yi z (si ((b * 33 + t) * 8 + i)) (ti i) = si ((b * 33 + t) * 8 + i) := by unfold nc_yi; rw [if_pos e, if_pos e2]
          rw [k] at A153
          exact A153
        · have k : nc_yi z (si ((b * 33 + t) * 8 + i)) (ti i) = 2 := by unfold nc_yi; rw [if_pos e, if_neg e2]
          rw [k] at A153
          exact A153
        · have k : nc_yi z (si ((b * 33 + t) * 8 + i)) (ti i) = ti i := if_neg e
          rw [k] at A153
          exact A153
      rw [wY_join_43]
      refine br_f (nn_nge 8 (by omega) (by decide)) (nm_r (e' := nI ((b * 33 + t) * 8 + i)) (by rw [nn_m8, nI_add]) ?_)
      rw [c1, c2, g1]
      refine br_c (fun e => ⟨v1, v2, br_c (fun e2 => ⟨v2, ?_⟩) (fun e2 => ⟨v1, ?_⟩)⟩) (fun e => ⟨v2, ?_⟩)
      · have k : nc_yn z (sn ((b * 33 + t) * 8 + i)) (tn i) = tn i := by unfold nc_yn; rw [if_pos e, if_pos e2]
        rw [k] at A108
        exact A108
      · have k : nc_yn z (sn ((b * 33 + t) * 8 + i)) (tn i) = sn ((b * 33 + t) * 8 + i) := by unfold nc_yn; rw [if_pos e, if_neg e2]
        rw [k] at A108
        exact A108
      · have k : nc_yn z (sn ((b * 33 + t) * 8 + i)) (tn i) = tn i := if_neg e
        rw [k] at A108
        exact A108
  have q := K 8 0 (by omega)
  rw [na_av0, na_av0, na_av0] at q
  have w1 : vp_in (nI (b * 33 + t)) 132 := vp_in_nI (by omega) (by decide)
  have A21 : wY_join_21 post (nI (b * 33 + t)) z cc hc md sel yec yep cs ms oc uc fc ych fk pn pi ln pg rc sn si sf tn ti tf he ou fr := by
    unfold wY_join_21
    rw [nI_clamp (by omega), nn_nb1]
    refine br_c (fun e => ⟨w1, nm_e ⟨9, ?_⟩⟩) (fun e => ⟨w1, nm_e ⟨9, ?_⟩⟩)
    · rw [na_ch, if_pos e] at q
      exact q
    · rw [na_ch, if_neg e] at q
      exact q
  unfold wpY_join
  refine nm_r (e' := nI (b * 33 + t)) (by rw [nn_m33, nI_add]) ⟨w1, ?_⟩
  rw [nI_clamp (by omega)]
  refine br_c (fun e => ?_) (fun e => ?_)
  · rw [if_pos e] at hz
    subst hz
    exact A21
  · rw [if_neg e] at hz
    subst hz
    exact A21
theorem yw_e286 {x1 x9 : Int32} {f : Nat} {post : SY → Prop} (h : wY_edges_485 post x1 x9 cc hc md sel yec yep cs ms oc uc fc ych fk pn pi ln pg rc sn si sf tn ti (na_mk tf (((1 : Int32) <<< (nI f &&& 31)) ^^^ (-1)) 8) he ou fr) : ∃ n, wY_edges_286 post x1 (nI f) x9 cc hc md sel yec yep cs ms oc uc fc ych n 0 fk pn pi ln pg rc sn si sf tn ti tf he ou fr := by
  have K : ∀ d i, i + d = 8 → wY_edges_286 post x1 (nI f) x9 cc hc md sel yec yep cs ms oc uc fc ych (d + 1) (nI i) fk pn pi ln pg rc sn si sf tn ti (na_mk tf (((1 : Int32) <<< (nI f &&& 31)) ^^^ (-1)) i) he ou fr := by
    intro d
    induction d with
    | zero =>
      intro i hi
      obtain rfl : i = 8 := by omega
      rw [wY_edges_286]
      exact br_t (by decide) h
    | succ d ih =>
      intro i hi
      rw [wY_edges_286]
      refine br_f (nn_nge 8 (by omega) (by decide)) ⟨vp_in_nI (by omega) (by decide), vp_in_nI (by omega) (by decide), nm_r ?_ (nm_r (nI_1 i) (ih (i + 1) (by omega)))⟩
      rw [nI_clamp (by omega), na_mkS, na_mkO (Nat.le_refl i)]
  have q := K 8 0 (by omega)
  rw [na_mk0] at q
  exact ⟨9, q⟩
theorem yw_e143 {x1 x9 x10 x11 : Int32} {a : Nat} (ha : a < 8) {post : SY → Prop} (h : wY_edges_485 post x1 x9 cc hc md sel yec yep cs ms oc uc fc ych fk pn pi ln pg rc sn si sf (upd tn a 0) (upd ti a x10) (upd (na_mk tf x11 8) a 0) he ou fr) : ∃ n, wY_edges_143 post x1 (nI a) x9 x10 x11 cc hc md sel yec yep cs ms oc uc fc ych n 0 fk pn pi ln pg rc sn si sf tn ti tf he ou fr := by
  have K : ∀ d i, i + d = 8 → wY_edges_143 post x1 (nI a) x9 x10 x11 cc hc md sel yec yep cs ms oc uc fc ych (d + 1) (nI i) fk pn pi ln pg rc sn si sf tn ti (na_mk tf x11 i) he ou fr := by
    intro d
    induction d with
    | zero =>
      intro i hi
      obtain rfl : i = 8 := by omega
      rw [wY_edges_143]
      exact br_t (by decide) (yw_set ha h)
    | succ d ih =>
      intro i hi
      rw [wY_edges_143]
      refine br_f (nn_nge 8 (by omega) (by decide)) ⟨vp_in_nI (by omega) (by decide), vp_in_nI (by omega) (by decide), nm_r ?_ (nm_r (nI_1 i) (ih (i + 1) (by omega)))⟩
      rw [nI_clamp (by omega), na_mkS, na_mkO (Nat.le_refl i)]
  have q := K 8 0 (by omega)
  rw [na_mk0] at q
  exact ⟨9, q⟩
end
