/-! the machine's step, both sides at once -/
theorem nn_s12 (g : Nat) : nI ((g + 1) * 12) - 12 = nI (g * 12) := by
  have e : (g + 1) * 12 - 12 = g * 12 := by omega
  rw [← e]
  exact pk_sub (b := 12) (by omega)
section
variable {cc hc md sel cs ec ep ms oc fc uc : Int32} {fk pn pi ln pg so ed he fr ou : Nat → Int32}
theorem xm_push {F : Nat} {bl ar de ow : Int32} (hF : F < 8) {post : SX → Prop} (h : post (cc, hc, md, sel, cs, ec, ep, ms, oc, (nI (F + 1)), uc, fk, pn, pi, ln, pg, so, ed, he, (nw_push fr F bl ar de ow), ou)) : wpX_pushFrame post (cc, hc, md, sel, cs, ec, ep, ms, oc, (nI F), uc, fk, pn, pi, ln, pg, so, ed, he, fr, ou) bl ar de ow := by
  have H : ∀ d i, i + d = 8 → wX_pushFrame_12 post bl ar de ow (nI (F * 12)) cc hc md sel cs ec ep ms oc (nI F) uc (d + 1) (nI i) fk pn pi ln pg so ed he (na_fi fr (F * 12) i (-1)) ou := by
    intro d
    induction d with
    | zero =>
      intro i hi
      obtain rfl : i = 8 := by omega
      rw [wX_pushFrame_12]
      refine br_t (by decide) ?_
      rw [nn_a1 (F * 12), nn_a8, nn_a9, nn_a10, nn_a11, nI_clamp (n := F * 12) (by omega), nI_clamp (n := F * 12 + 1) (by omega), nI_clamp (n := F * 12 + 8) (by omega), nI_clamp (n := F * 12 + 9) (by omega), nI_clamp (n := F * 12 + 10) (by omega), nI_clamp (n := F * 12 + 11) (by omega)]
      exact ⟨vp_in_nI (by omega) (by decide), nm_e ⟨vp_in_nI (by omega) (by decide), nm_e ⟨vp_in_nI (by omega) (by decide), nm_e ⟨vp_in_nI (by omega) (by decide), nm_e ⟨vp_in_nI (by omega) (by decide), nm_e ⟨vp_in_nI (by omega) (by decide), nm_e (nm_r (nn_a1 F) h)⟩⟩⟩⟩⟩⟩
    | succ d ih =>
      intro i hi
      rw [wX_pushFrame_12]
      refine br_f (nn_nge 8 (by omega) (by decide)) ⟨nn_inA (by omega) (by decide), nm_r ?_ (nm_r (nI_1 i) (ih (i + 1) (by omega)))⟩
      rw [nn_clA (by omega), na_fiS]
  unfold wpX_pushFrame
  refine nm_r (nn_m12 F) ⟨9, ?_⟩
  have q := H 8 0 (by omega)
  rw [na_fi0] at q
  exact q
theorem xm_make {O : Nat} (hO : O < 32) {post : SX → Prop} (h : post (cc, hc, md, sel, cs, ec, ep, ms, (nI (O + 1)), fc, uc, fk, pn, pi, ln, pg, so, ed, (na_fi he (O * 4) 4 (-1)), fr, ou)) : wpX_makeObject post (cc, hc, md, sel, cs, ec, ep, ms, (nI O), fc, uc, fk, pn, pi, ln, pg, so, ed, he, fr, ou) := by
  have H : ∀ d i, i + d = 4 → wX_makeObject_2 post cc hc md sel cs ec ep ms (nI O) fc uc (d + 1) (nI i) fk pn pi ln pg so ed (na_fi he (O * 4) i (-1)) fr ou := by
    intro d
    induction d with
    | zero =>
      intro i hi
      obtain rfl : i = 4 := by omega
      rw [wX_makeObject_2]
      exact br_t (by decide) (nm_r (nn_a1 O) h)
    | succ d ih =>
      intro i hi
      rw [wX_makeObject_2]
      refine br_f (nn_nge 4 (by omega) (by decide)) ?_
      rw [nn_m4]
      refine ⟨nn_inA (by omega) (by decide), nm_r ?_ (nm_r (nI_1 i) (ih (i + 1) (by omega)))⟩
      rw [nn_clA (by omega), na_fiS]
  unfold wpX_makeObject
  refine ⟨5, ?_⟩
  have q := H 4 0 (by omega)
  rw [na_fi0] at q
  exact q
theorem xm_169 {G : Nat} (hG : G < 8) {v : Int32} {post : SX → Prop} (h : post (cc, hc, md, sel, cs, ec, ep, ms, oc, fc, uc, fk, pn, pi, ln, pg, so, ed, he, (upd fr (G * 12 + 9) v), ou)) : wX_stepPlain_169 post (nI (G * 12)) v cc hc md sel cs ec ep ms oc fc uc fk pn pi ln pg so ed he fr ou := by
  unfold wX_stepPlain_169
  rw [nn_a9, nI_clamp (by omega)]
  exact ⟨vp_in_nI (by omega) (by decide), nm_e h⟩
end
section
variable {cc hc md sel yec yep cs ms oc uc fc ych : Int32} {fk pn pi ln pg rc sn si sf tn ti tf he ou fr : Nat → Int32}
theorem ym_743 {G : Nat} (hG : G < 8) {v : Int32} {post : SY → Prop} (h : post (cc, hc, md, sel, yec, yep, cs, ms, oc, uc, fc, ych, fk, pn, pi, ln, pg, rc, sn, si, sf, tn, ti, tf, he, ou, (upd fr (G * 12 + 9) v))) : wY_step_743 post (nI (G * 12)) v cc hc md sel yec yep cs ms oc uc fc ych fk pn pi ln pg rc sn si sf tn ti tf he ou fr := by
  unfold wY_step_743
  rw [nn_a9, nI_clamp (by omega)]
  exact ⟨vp_in_nI (by omega) (by decide), nm_e h⟩
theorem ym_641 {F : Nat} {bl ar de ow : Int32} (hF : F < 8) {post : SY → Prop} (h : post (cc, hc, md, sel, yec, yep, cs, ms, oc, uc, (nI (F + 1)), ych, fk, pn, pi, ln, pg, rc, sn, si, sf, tn, ti, tf, he, ou, (nw_push fr F bl ar de ow))) : ∃ n, wY_step_641 post de bl ar ow (nI (F * 12)) cc hc md sel yec yep cs ms oc uc (nI F) ych n 0 fk pn pi ln pg rc sn si sf tn ti tf he ou fr := by
  have H : ∀ d i, i + d = 8 → wY_step_641 post de bl ar ow (nI (F * 12)) cc hc md sel yec yep cs ms oc uc (nI F) ych (d + 1) (nI i) fk pn pi ln pg rc sn si sf tn ti tf he ou (na_fi fr (F * 12) i (-1)) := by
    intro d
    induction d with
    | zero =>
      intro i hi
      obtain rfl : i = 8 := by omega
      rw [wY_step_641]
      refine br_t (by decide) ?_
      rw [nn_a1 (F * 12), nn_a8, nn_a9, nn_a10, nn_a11, nI_clamp (n := F * 12) (by omega), nI_clamp (n := F * 12 + 1) (by omega), nI_clamp (n := F * 12 + 8) (by omega), nI_clamp (n := F * 12 + 9) (by omega), nI_clamp (n := F * 12 + 10) (by omega), nI_clamp (n := F * 12 + 11) (by omega)]
      exact ⟨vp_in_nI (by omega) (by decide), nm_e ⟨vp_in_nI (by omega) (by decide), nm_e ⟨vp_in_nI (by omega) (by decide), nm_e ⟨vp_in_nI (by omega) (by decide), nm_e ⟨vp_in_nI (by omega) (by decide), nm_e ⟨vp_in_nI (by omega) (by decide), nm_e (nm_r (nn_a1 F) h)⟩⟩⟩⟩⟩⟩
    | succ d ih =>
      intro i hi
      rw [wY_step_641]
      refine br_f (nn_nge 8 (by omega) (by decide)) ⟨nn_inA (by omega) (by decide), nm_r ?_ (nm_r (nI_1 i) (ih (i + 1) (by omega)))⟩
      rw [nn_clA (by omega), na_fiS]
  have q := H 8 0 (by omega)
  rw [na_fi0] at q
  exact ⟨9, q⟩
theorem ym_593 {G O : Nat} {bl ar de v : Int32} (hG : G + 1 < 8) (hO : O < 32) {post : SY → Prop} (h : post (cc, hc, md, sel, yec, yep, cs, ms, oc, uc, (nI (G + 1 + 1)), ych, fk, pn, pi, ln, pg, rc, sn, si, sf, tn, ti, tf, (na_fi he (O * 4) 4 (-1)), ou, (nw_push (upd fr (G * 12 + 9) v) (G + 1) bl ar de (nI O)))) : ∃ n, wY_step_593 post (nI (G * 12)) de bl v ar (nI O) cc hc md sel yec yep cs ms oc uc (nI (G + 1)) ych n 0 fk pn pi ln pg rc sn si sf tn ti tf he ou fr := by
  have H : ∀ d i, i + d = 4 → wY_step_593 post (nI (G * 12)) de bl v ar (nI O) cc hc md sel yec yep cs ms oc uc (nI (G + 1)) ych (d + 1) (nI i) fk pn pi ln pg rc sn si sf tn ti tf (na_fi he (O * 4) i (-1)) ou fr := by
    intro d
    induction d with
    | zero =>
      intro i hi
      obtain rfl : i = 4 := by omega
      rw [wY_step_593]
      refine br_t (by decide) ?_
      rw [nn_a9, nI_clamp (n := G * 12 + 9) (by omega)]
      exact ⟨vp_in_nI (by omega) (by decide), nm_e (nm_r (nn_m12 (G + 1)) (ym_641 hG h))⟩
    | succ d ih =>
      intro i hi
      rw [wY_step_593]
      refine br_f (nn_nge 4 (by omega) (by decide)) ?_
      rw [nn_m4]
      refine ⟨nn_inA (by omega) (by decide), nm_r ?_ (nm_r (nI_1 i) (ih (i + 1) (by omega)))⟩
      rw [nn_clA (by omega), na_fiS]
  have q := H 4 0 (by omega)
  rw [na_fi0] at q
  exact ⟨5, q⟩
end
def nf_st (G O U H D : Nat) (cc sel cs ec ep ms : Int32) (fk pn pi ln pg so ed he fr ou rc sn si sf tn ti tf : Nat → Int32) : Prop := ∃ (ms' : Int32) (O' F' U' : Nat) (he' fr' ou' : Nat → Int32), 1 ≤ F' ∧ nv_M O' F' U' H D he' fr' ∧ (∀ post : SX → Prop, post (cc, (nI H), (nI D), sel, cs, ec, ep, ms', (nI O'), (nI F'), (nI U'), fk, pn, pi, ln, pg, so, ed, he', fr', ou') → wpX_step post (cc, (nI H), (nI D), sel, cs, ec, ep, ms, (nI O), (nI (G + 1)), (nI U), fk, pn, pi, ln, pg, so, ed, he, fr, ou)) ∧ (∀ (yec yep ych : Int32) (post : SY → Prop), post (cc, (nI H), (nI D), sel, yec, yep, cs, ms', (nI O'), (nI U'), (nI F'), ych, fk, pn, pi, ln, pg, rc, sn, si, sf, tn, ti, tf, he', ou', fr') → wpY_step post (cc, (nI H), (nI D), sel, yec, yep, cs, ms, (nI O), (nI U), (nI (G + 1)), ych, fk, pn, pi, ln, pg, rc, sn, si, sf, tn, ti, tf, he, ou, fr))
section
variable {cc sel cs ec ep ms : Int32} {fk pn pi ln pg so ed he fr ou rc sn si sf tn ti tf : Nat → Int32} {G O U H D b p l : Nat} {A B K : Nat}
theorem st_0 (hD : D ≤ 8) (hH : H ≤ 32) (hM : nv_M O (G + 1) U H D he fr) (hb : b < 4) (ebl : fr (G * 12 + 8) = nI b) (epc : fr (G * 12 + 9) = nI p) (hlb : ln b = nI l) (hl2 : l ≤ 32) (hp : p < l) (ea : pg ((b * 32 + p) * 4 + 1) = nI A) (eB : pg ((b * 32 + p) * 4 + 2) = nI B) (eK : pg ((b * 32 + p) * 4 + 3) = nI K) (eo : pg ((b * 32 + p) * 4) = nI 0) (hA : A < 8) : nf_st G O U H D cc sel cs ec ep ms fk pn pi ln pg so ed he fr ou rc sn si sf tn ti tf := by
  have hF := hM.2.1
  have hO := hM.1
  refine ⟨ms, O, G + 1, U, he, upd (upd fr (G * 12 + A) (-1)) (G * 12 + 9) (nI (p + 1)), ou, by omega, (nv_Mf hM (fun k hk q => nv_frP (nv_frL q hA (Or.inl rfl)) (by omega))), fun post h => ?_, fun yec yep ych post h => ?_⟩
  · unfold wpX_step
    refine nm_r (e' := nI (G * 12)) (by rw [nI_pred, nn_m12]) ⟨pk_in _ 96 (by omega) (nn_a8 _) (by decide), nm_r (e' := nI b) (by rw [nn_a8, nI_clamp (by omega)]; exact ebl) ⟨pk_in _ 96 (by omega) (nn_a9 _) (by decide), nm_r (e' := nI p) (by rw [nn_a9, nI_clamp (by omega)]; exact epc) ⟨vp_in_nI hb (by decide), ?_⟩⟩⟩
    rw [nI_clamp (n := b) (by omega), hlb]
    refine br_t (nI_lt (by omega) (by omega)) ?_
    unfold wpX_codeAt
    rw [nn_ct]
    refine ⟨vp_in_nI (by omega) (by decide), nm_r (e' := nI 0) (by rw [nI_clamp (by omega)]; exact eo) ⟨pk_in _ 512 (by omega) (nn_a1 _) (by decide), nm_r (e' := nI A) (by rw [nn_a1, nI_clamp (by omega)]; exact ea) ⟨pk_in _ 512 (by omega) (nn_a2 _) (by decide), nm_r (e' := nI B) (by rw [nn_a2, nI_clamp (by omega)]; exact eB) ⟨pk_in _ 512 (by omega) (nn_a3 _) (by decide), nm_r (e' := nI K) (by rw [nn_a3, nI_clamp (by omega)]; exact eK) ?_⟩⟩⟩⟩
    refine br_t (by decide) ?_
    unfold wX_step_190 wpX_stepPlain
    refine ⟨pk_in _ 96 (by omega) (nn_a9 _) (by decide), nm_r (e' := nI (p + 1)) (by rw [nn_a9, nI_clamp (by omega), epc, nn_a1]) ?_⟩
    refine br_f (by decide) (br_f (by decide) (br_t (by decide) ?_))
    rw [nn_clA (by omega)]
    exact ⟨nn_inA (by omega) (by decide), nm_e (xm_169 (by omega) h)⟩
  · unfold wpY_step
    refine nm_r (e' := nI (G * 12)) (by rw [nI_pred, nn_m12]) ⟨pk_in _ 96 (by omega) (nn_a8 _) (by decide), nm_r (e' := nI b) (by rw [nn_a8, nI_clamp (by omega)]; exact ebl) ⟨pk_in _ 96 (by omega) (nn_a9 _) (by decide), nm_r (e' := nI p) (by rw [nn_a9, nI_clamp (by omega)]; exact epc) ⟨vp_in_nI hb (by decide), ?_⟩⟩⟩
    rw [nI_clamp (n := b) (by omega), hlb]
    rw [nn_ct]
    refine br_f (nI_ge (by omega) (by omega)) ⟨vp_in_nI (by omega) (by decide), ?_⟩
    rw [nI_clamp (n := (b * 32 + p) * 4) (by omega), eo]
    refine br_f (by decide) (nm_e ⟨vp_in_nI (by omega) (by decide), nm_r (e' := nI 0) (by rw [nI_clamp (by omega)]; exact eo) ⟨pk_in _ 512 (by omega) (nn_a1 _) (by decide), nm_r (e' := nI A) (by rw [nn_a1, nI_clamp (by omega)]; exact ea) ⟨pk_in _ 512 (by omega) (nn_a2 _) (by decide), nm_r (e' := nI B) (by rw [nn_a2, nI_clamp (by omega)]; exact eB) ⟨pk_in _ 512 (by omega) (nn_a3 _) (by decide), nm_r (e' := nI K) (by rw [nn_a3, nI_clamp (by omega)]; exact eK) (nm_r (nn_a1 p) ?_)⟩⟩⟩⟩)
    refine br_t (by decide) ?_
    rw [nn_clA (by omega)]
    exact ⟨nn_inA (by omega) (by decide), nm_e (ym_743 (by omega) h)⟩
theorem st_1 (hD : D ≤ 8) (hH : H ≤ 32) (hM : nv_M O (G + 1) U H D he fr) (hb : b < 4) (ebl : fr (G * 12 + 8) = nI b) (epc : fr (G * 12 + 9) = nI p) (hlb : ln b = nI l) (hl2 : l ≤ 32) (hp : p < l) (ea : pg ((b * 32 + p) * 4 + 1) = nI A) (eB : pg ((b * 32 + p) * 4 + 2) = nI B) (eK : pg ((b * 32 + p) * 4 + 3) = nI K) (eo : pg ((b * 32 + p) * 4) = nI 1) (hA : A < 8) (hB : B < 8) (hv : nv_vl O (fr (G * 12 + B))) : nf_st G O U H D cc sel cs ec ep ms fk pn pi ln pg so ed he fr ou rc sn si sf tn ti tf := by
  have hF := hM.2.1
  have hO := hM.1
  refine ⟨ms, O, G + 1, U, he, upd (upd fr (G * 12 + A) (fr (G * 12 + B))) (G * 12 + 9) (nI (p + 1)), ou, by omega, (nv_Mf hM (fun k hk q => nv_frP (nv_frL q hA hv) (by omega))), fun post h => ?_, fun yec yep ych post h => ?_⟩
  · unfold wpX_step
    refine nm_r (e' := nI (G * 12)) (by rw [nI_pred, nn_m12]) ⟨pk_in _ 96 (by omega) (nn_a8 _) (by decide), nm_r (e' := nI b) (by rw [nn_a8, nI_clamp (by omega)]; exact ebl) ⟨pk_in _ 96 (by omega) (nn_a9 _) (by decide), nm_r (e' := nI p) (by rw [nn_a9, nI_clamp (by omega)]; exact epc) ⟨vp_in_nI hb (by decide), ?_⟩⟩⟩
    rw [nI_clamp (n := b) (by omega), hlb]
    refine br_t (nI_lt (by omega) (by omega)) ?_
    unfold wpX_codeAt
    rw [nn_ct]
    refine ⟨vp_in_nI (by omega) (by decide), nm_r (e' := nI 1) (by rw [nI_clamp (by omega)]; exact eo) ⟨pk_in _ 512 (by omega) (nn_a1 _) (by decide), nm_r (e' := nI A) (by rw [nn_a1, nI_clamp (by omega)]; exact ea) ⟨pk_in _ 512 (by omega) (nn_a2 _) (by decide), nm_r (e' := nI B) (by rw [nn_a2, nI_clamp (by omega)]; exact eB) ⟨pk_in _ 512 (by omega) (nn_a3 _) (by decide), nm_r (e' := nI K) (by rw [nn_a3, nI_clamp (by omega)]; exact eK) ?_⟩⟩⟩⟩
    refine br_t (by decide) ?_
    unfold wX_step_190 wpX_stepPlain
    refine ⟨pk_in _ 96 (by omega) (nn_a9 _) (by decide), nm_r (e' := nI (p + 1)) (by rw [nn_a9, nI_clamp (by omega), epc, nn_a1]) ?_⟩
    refine br_f (by decide) (br_f (by decide) (br_f (by decide) (br_t (by decide) ?_)))
    rw [nn_clA (a := G * 12) (b := B) (by omega), nn_clA (a := G * 12) (b := A) (by omega)]
    exact ⟨nn_inA (by omega) (by decide), nn_inA (by omega) (by decide), nm_e (xm_169 (by omega) h)⟩
  · unfold wpY_step
    refine nm_r (e' := nI (G * 12)) (by rw [nI_pred, nn_m12]) ⟨pk_in _ 96 (by omega) (nn_a8 _) (by decide), nm_r (e' := nI b) (by rw [nn_a8, nI_clamp (by omega)]; exact ebl) ⟨pk_in _ 96 (by omega) (nn_a9 _) (by decide), nm_r (e' := nI p) (by rw [nn_a9, nI_clamp (by omega)]; exact epc) ⟨vp_in_nI hb (by decide), ?_⟩⟩⟩
    rw [nI_clamp (n := b) (by omega), hlb]
    rw [nn_ct]
    refine br_f (nI_ge (by omega) (by omega)) ⟨vp_in_nI (by omega) (by decide), ?_⟩
    rw [nI_clamp (n := (b * 32 + p) * 4) (by omega), eo]
    refine br_f (by decide) (nm_e ⟨vp_in_nI (by omega) (by decide), nm_r (e' := nI 1) (by rw [nI_clamp (by omega)]; exact eo) ⟨pk_in _ 512 (by omega) (nn_a1 _) (by decide), nm_r (e' := nI A) (by rw [nn_a1, nI_clamp (by omega)]; exact ea) ⟨pk_in _ 512 (by omega) (nn_a2 _) (by decide), nm_r (e' := nI B) (by rw [nn_a2, nI_clamp (by omega)]; exact eB) ⟨pk_in _ 512 (by omega) (nn_a3 _) (by decide), nm_r (e' := nI K) (by rw [nn_a3, nI_clamp (by omega)]; exact eK) (nm_r (nn_a1 p) ?_)⟩⟩⟩⟩)
    refine br_f (by decide) (br_t (by decide) ?_)
    rw [nn_clA (a := G * 12) (b := B) (by omega), nn_clA (a := G * 12) (b := A) (by omega)]
    exact ⟨nn_inA (by omega) (by decide), nn_inA (by omega) (by decide), nm_e (ym_743 (by omega) h)⟩
theorem st_7 (hD : D ≤ 8) (hH : H ≤ 32) (hM : nv_M O (G + 1) U H D he fr) (hb : b < 4) (ebl : fr (G * 12 + 8) = nI b) (epc : fr (G * 12 + 9) = nI p) (hlb : ln b = nI l) (hl2 : l ≤ 32) (hp : p < l) (ea : pg ((b * 32 + p) * 4 + 1) = nI A) (eB : pg ((b * 32 + p) * 4 + 2) = nI B) (eK : pg ((b * 32 + p) * 4 + 3) = nI K) (eo : pg ((b * 32 + p) * 4) = nI 7) (hA : A < 33) : nf_st G O U H D cc sel cs ec ep ms fk pn pi ln pg so ed he fr ou rc sn si sf tn ti tf := by
  have hF := hM.2.1
  have hO := hM.1
  refine ⟨ms, O, G + 1, U, he, upd fr (G * 12 + 9) (nI A), ou, by omega, (nv_Mf hM (fun k hk q => nv_frP q (by omega))), fun post h => ?_, fun yec yep ych post h => ?_⟩
  · unfold wpX_step
    refine nm_r (e' := nI (G * 12)) (by rw [nI_pred, nn_m12]) ⟨pk_in _ 96 (by omega) (nn_a8 _) (by decide), nm_r (e' := nI b) (by rw [nn_a8, nI_clamp (by omega)]; exact ebl) ⟨pk_in _ 96 (by omega) (nn_a9 _) (by decide), nm_r (e' := nI p) (by rw [nn_a9, nI_clamp (by omega)]; exact epc) ⟨vp_in_nI hb (by decide), ?_⟩⟩⟩
    rw [nI_clamp (n := b) (by omega), hlb]
    refine br_t (nI_lt (by omega) (by omega)) ?_
    unfold wpX_codeAt
    rw [nn_ct]
    refine ⟨vp_in_nI (by omega) (by decide), nm_r (e' := nI 7) (by rw [nI_clamp (by omega)]; exact eo) ⟨pk_in _ 512 (by omega) (nn_a1 _) (by decide), nm_r (e' := nI A) (by rw [nn_a1, nI_clamp (by omega)]; exact ea) ⟨pk_in _ 512 (by omega) (nn_a2 _) (by decide), nm_r (e' := nI B) (by rw [nn_a2, nI_clamp (by omega)]; exact eB) ⟨pk_in _ 512 (by omega) (nn_a3 _) (by decide), nm_r (e' := nI K) (by rw [nn_a3, nI_clamp (by omega)]; exact eK) ?_⟩⟩⟩⟩
    refine br_f (by decide) (br_f (by decide) (br_f (by decide) (br_f (by decide) (br_f (by decide) (br_f (by decide) (br_f (by decide) (br_t (by decide) ?_)))))))
    unfold wX_step_190 wpX_stepPlain
    refine ⟨pk_in _ 96 (by omega) (nn_a9 _) (by decide), nm_r (e' := nI (p + 1)) (by rw [nn_a9, nI_clamp (by omega), epc, nn_a1]) ?_⟩
    refine br_f (by decide) (br_f (by decide) (br_f (by decide) (br_f (by decide) (br_f (by decide) (br_f (by decide) (br_f (by decide) (br_f (by decide) (br_f (by decide) (br_t (by decide) ?_)))))))))
    exact xm_169 (by omega) h
  · unfold wpY_step
    refine nm_r (e' := nI (G * 12)) (by rw [nI_pred, nn_m12]) ⟨pk_in _ 96 (by omega) (nn_a8 _) (by decide), nm_r (e' := nI b) (by rw [nn_a8, nI_clamp (by omega)]; exact ebl) ⟨pk_in _ 96 (by omega) (nn_a9 _) (by decide), nm_r (e' := nI p) (by rw [nn_a9, nI_clamp (by omega)]; exact epc) ⟨vp_in_nI hb (by decide), ?_⟩⟩⟩
    rw [nI_clamp (n := b) (by omega), hlb]
    rw [nn_ct]
    refine br_f (nI_ge (by omega) (by omega)) ⟨vp_in_nI (by omega) (by decide), ?_⟩
    rw [nI_clamp (n := (b * 32 + p) * 4) (by omega), eo]
    refine br_f (by decide) (nm_e ⟨vp_in_nI (by omega) (by decide), nm_r (e' := nI 7) (by rw [nI_clamp (by omega)]; exact eo) ⟨pk_in _ 512 (by omega) (nn_a1 _) (by decide), nm_r (e' := nI A) (by rw [nn_a1, nI_clamp (by omega)]; exact ea) ⟨pk_in _ 512 (by omega) (nn_a2 _) (by decide), nm_r (e' := nI B) (by rw [nn_a2, nI_clamp (by omega)]; exact eB) ⟨pk_in _ 512 (by omega) (nn_a3 _) (by decide), nm_r (e' := nI K) (by rw [nn_a3, nI_clamp (by omega)]; exact eK) (nm_r (nn_a1 p) ?_)⟩⟩⟩⟩)
    refine br_f (by decide) (br_f (by decide) (br_f (by decide) (br_t (by decide) ?_)))
    exact ym_743 (by omega) h
theorem st_5a (hD : D ≤ 8) (hH : H ≤ 32) (hM : nv_M O (G + 1) U H D he fr) (hb : b < 4) (ebl : fr (G * 12 + 8) = nI b) (epc : fr (G * 12 + 9) = nI p) (hlb : ln b = nI l) (hl2 : l ≤ 32) (hp : p < l) (ea : pg ((b * 32 + p) * 4 + 1) = nI A) (eB : pg ((b * 32 + p) * 4 + 2) = nI B) (eK : pg ((b * 32 + p) * 4 + 3) = nI K) (eo : pg ((b * 32 + p) * 4) = nI 5) (hA : A < 8) (hB : B < 33) (e : fr (G * 12 + A) = -1) : nf_st G O U H D cc sel cs ec ep ms fk pn pi ln pg so ed he fr ou rc sn si sf tn ti tf := by
  have hF := hM.2.1
  have hO := hM.1
  refine ⟨ms, O, G + 1, U, he, upd fr (G * 12 + 9) (nI (B)), ou, by omega, (nv_Mf hM (fun k hk q => nv_frP q (by omega))), fun post h => ?_, fun yec yep ych post h => ?_⟩
  · unfold wpX_step
    refine nm_r (e' := nI (G * 12)) (by rw [nI_pred, nn_m12]) ⟨pk_in _ 96 (by omega) (nn_a8 _) (by decide), nm_r (e' := nI b) (by rw [nn_a8, nI_clamp (by omega)]; exact ebl) ⟨pk_in _ 96 (by omega) (nn_a9 _) (by decide), nm_r (e' := nI p) (by rw [nn_a9, nI_clamp (by omega)]; exact epc) ⟨vp_in_nI hb (by decide), ?_⟩⟩⟩
    rw [nI_clamp (n := b) (by omega), hlb]
    refine br_t (nI_lt (by omega) (by omega)) ?_
    unfold wpX_codeAt
    rw [nn_ct]
    refine ⟨vp_in_nI (by omega) (by decide), nm_r (e' := nI 5) (by rw [nI_clamp (by omega)]; exact eo) ⟨pk_in _ 512 (by omega) (nn_a1 _) (by decide), nm_r (e' := nI A) (by rw [nn_a1, nI_clamp (by omega)]; exact ea) ⟨pk_in _ 512 (by omega) (nn_a2 _) (by decide), nm_r (e' := nI B) (by rw [nn_a2, nI_clamp (by omega)]; exact eB) ⟨pk_in _ 512 (by omega) (nn_a3 _) (by decide), nm_r (e' := nI K) (by rw [nn_a3, nI_clamp (by omega)]; exact eK) ?_⟩⟩⟩⟩
    refine br_f (by decide) (br_f (by decide) (br_f (by decide) (br_f (by decide) (br_f (by decide) (br_t (by decide) ?_)))))
    unfold wX_step_190 wpX_stepPlain
    refine ⟨pk_in _ 96 (by omega) (nn_a9 _) (by decide), nm_r (e' := nI (p + 1)) (by rw [nn_a9, nI_clamp (by omega), epc, nn_a1]) ?_⟩
    refine br_f (by decide) (br_f (by decide) (br_f (by decide) (br_f (by decide) (br_f (by decide) (br_f (by decide) (br_f (by decide) (br_t (by decide) ?_)))))))
    rw [nn_clA (by omega)]
    refine ⟨nn_inA (by omega) (by decide), br_t e ?_⟩
    unfold wX_stepPlain_119
    exact xm_169 (by omega) h
  · unfold wpY_step
    refine nm_r (e' := nI (G * 12)) (by rw [nI_pred, nn_m12]) ⟨pk_in _ 96 (by omega) (nn_a8 _) (by decide), nm_r (e' := nI b) (by rw [nn_a8, nI_clamp (by omega)]; exact ebl) ⟨pk_in _ 96 (by omega) (nn_a9 _) (by decide), nm_r (e' := nI p) (by rw [nn_a9, nI_clamp (by omega)]; exact epc) ⟨vp_in_nI hb (by decide), ?_⟩⟩⟩
    rw [nI_clamp (n := b) (by omega), hlb]
    rw [nn_ct]
    refine br_f (nI_ge (by omega) (by omega)) ⟨vp_in_nI (by omega) (by decide), ?_⟩
    rw [nI_clamp (n := (b * 32 + p) * 4) (by omega), eo]
    refine br_f (by decide) (nm_e ⟨vp_in_nI (by omega) (by decide), nm_r (e' := nI 5) (by rw [nI_clamp (by omega)]; exact eo) ⟨pk_in _ 512 (by omega) (nn_a1 _) (by decide), nm_r (e' := nI A) (by rw [nn_a1, nI_clamp (by omega)]; exact ea) ⟨pk_in _ 512 (by omega) (nn_a2 _) (by decide), nm_r (e' := nI B) (by rw [nn_a2, nI_clamp (by omega)]; exact eB) ⟨pk_in _ 512 (by omega) (nn_a3 _) (by decide), nm_r (e' := nI K) (by rw [nn_a3, nI_clamp (by omega)]; exact eK) (nm_r (nn_a1 p) ?_)⟩⟩⟩⟩)
    refine br_f (by decide) (br_f (by decide) (br_f (by decide) (br_f (by decide) (br_t (by decide) ?_))))
    rw [nn_clA (by omega)]
    exact ⟨nn_inA (by omega) (by decide), br_t e (ym_743 (by omega) h)⟩
theorem st_5b (hD : D ≤ 8) (hH : H ≤ 32) (hM : nv_M O (G + 1) U H D he fr) (hb : b < 4) (ebl : fr (G * 12 + 8) = nI b) (epc : fr (G * 12 + 9) = nI p) (hlb : ln b = nI l) (hl2 : l ≤ 32) (hp : p < l) (ea : pg ((b * 32 + p) * 4 + 1) = nI A) (eB : pg ((b * 32 + p) * 4 + 2) = nI B) (eK : pg ((b * 32 + p) * 4 + 3) = nI K) (eo : pg ((b * 32 + p) * 4) = nI 5) (hA : A < 8) (hB : B < 33) (e : ¬ fr (G * 12 + A) = -1) : nf_st G O U H D cc sel cs ec ep ms fk pn pi ln pg so ed he fr ou rc sn si sf tn ti tf := by
  have hF := hM.2.1
  have hO := hM.1
  refine ⟨ms, O, G + 1, U, he, upd fr (G * 12 + 9) (nI (p + 1)), ou, by omega, (nv_Mf hM (fun k hk q => nv_frP q (by omega))), fun post h => ?_, fun yec yep ych post h => ?_⟩
  · unfold wpX_step
    refine nm_r (e' := nI (G * 12)) (by rw [nI_pred, nn_m12]) ⟨pk_in _ 96 (by omega) (nn_a8 _) (by decide), nm_r (e' := nI b) (by rw [nn_a8, nI_clamp (by omega)]; exact ebl) ⟨pk_in _ 96 (by omega) (nn_a9 _) (by decide), nm_r (e' := nI p) (by rw [nn_a9, nI_clamp (by omega)]; exact epc) ⟨vp_in_nI hb (by decide), ?_⟩⟩⟩
    rw [nI_clamp (n := b) (by omega), hlb]
    refine br_t (nI_lt (by omega) (by omega)) ?_
    unfold wpX_codeAt
    rw [nn_ct]
    refine ⟨vp_in_nI (by omega) (by decide), nm_r (e' := nI 5) (by rw [nI_clamp (by omega)]; exact eo) ⟨pk_in _ 512 (by omega) (nn_a1 _) (by decide), nm_r (e' := nI A) (by rw [nn_a1, nI_clamp (by omega)]; exact ea) ⟨pk_in _ 512 (by omega) (nn_a2 _) (by decide), nm_r (e' := nI B) (by rw [nn_a2, nI_clamp (by omega)]; exact eB) ⟨pk_in _ 512 (by omega) (nn_a3 _) (by decide), nm_r (e' := nI K) (by rw [nn_a3, nI_clamp (by omega)]; exact eK) ?_⟩⟩⟩⟩
    refine br_f (by decide) (br_f (by decide) (br_f (by decide) (br_f (by decide) (br_f (by decide) (br_t (by decide) ?_)))))
    unfold wX_step_190 wpX_stepPlain
    refine ⟨pk_in _ 96 (by omega) (nn_a9 _) (by decide), nm_r (e' := nI (p + 1)) (by rw [nn_a9, nI_clamp (by omega), epc, nn_a1]) ?_⟩
    refine br_f (by decide) (br_f (by decide) (br_f (by decide) (br_f (by decide) (br_f (by decide) (br_f (by decide) (br_f (by decide) (br_t (by decide) ?_)))))))
    rw [nn_clA (by omega)]
    refine ⟨nn_inA (by omega) (by decide), br_f e ?_⟩
    unfold wX_stepPlain_119
    exact xm_169 (by omega) h
  · unfold wpY_step
    refine nm_r (e' := nI (G * 12)) (by rw [nI_pred, nn_m12]) ⟨pk_in _ 96 (by omega) (nn_a8 _) (by decide), nm_r (e' := nI b) (by rw [nn_a8, nI_clamp (by omega)]; exact ebl) ⟨pk_in _ 96 (by omega) (nn_a9 _) (by decide), nm_r (e' := nI p) (by rw [nn_a9, nI_clamp (by omega)]; exact epc) ⟨vp_in_nI hb (by decide), ?_⟩⟩⟩
    rw [nI_clamp (n := b) (by omega), hlb]
    rw [nn_ct]
    refine br_f (nI_ge (by omega) (by omega)) ⟨vp_in_nI (by omega) (by decide), ?_⟩
    rw [nI_clamp (n := (b * 32 + p) * 4) (by omega), eo]
    refine br_f (by decide) (nm_e ⟨vp_in_nI (by omega) (by decide), nm_r (e' := nI 5) (by rw [nI_clamp (by omega)]; exact eo) ⟨pk_in _ 512 (by omega) (nn_a1 _) (by decide), nm_r (e' := nI A) (by rw [nn_a1, nI_clamp (by omega)]; exact ea) ⟨pk_in _ 512 (by omega) (nn_a2 _) (by decide), nm_r (e' := nI B) (by rw [nn_a2, nI_clamp (by omega)]; exact eB) ⟨pk_in _ 512 (by omega) (nn_a3 _) (by decide), nm_r (e' := nI K) (by rw [nn_a3, nI_clamp (by omega)]; exact eK) (nm_r (nn_a1 p) ?_)⟩⟩⟩⟩)
    refine br_f (by decide) (br_f (by decide) (br_f (by decide) (br_f (by decide) (br_t (by decide) ?_))))
    rw [nn_clA (by omega)]
    exact ⟨nn_inA (by omega) (by decide), br_f e (ym_743 (by omega) h)⟩
theorem st_6a (hD : D ≤ 8) (hH : H ≤ 32) (hM : nv_M O (G + 1) U H D he fr) (hb : b < 4) (ebl : fr (G * 12 + 8) = nI b) (epc : fr (G * 12 + 9) = nI p) (hlb : ln b = nI l) (hl2 : l ≤ 32) (hp : p < l) (ea : pg ((b * 32 + p) * 4 + 1) = nI A) (eB : pg ((b * 32 + p) * 4 + 2) = nI B) (eK : pg ((b * 32 + p) * 4 + 3) = nI K) (eo : pg ((b * 32 + p) * 4) = nI 6) (hA : A < 8) (hB : B < 33) (e : fr (G * 12 + A) = -1) : nf_st G O U H D cc sel cs ec ep ms fk pn pi ln pg so ed he fr ou rc sn si sf tn ti tf := by
  have hF := hM.2.1
  have hO := hM.1
  refine ⟨ms, O, G + 1, U, he, upd fr (G * 12 + 9) (nI (p + 1)), ou, by omega, (nv_Mf hM (fun k hk q => nv_frP q (by omega))), fun post h => ?_, fun yec yep ych post h => ?_⟩
  · unfold wpX_step
    refine nm_r (e' := nI (G * 12)) (by rw [nI_pred, nn_m12]) ⟨pk_in _ 96 (by omega) (nn_a8 _) (by decide), nm_r (e' := nI b) (by rw [nn_a8, nI_clamp (by omega)]; exact ebl) ⟨pk_in _ 96 (by omega) (nn_a9 _) (by decide), nm_r (e' := nI p) (by rw [nn_a9, nI_clamp (by omega)]; exact epc) ⟨vp_in_nI hb (by decide), ?_⟩⟩⟩
    rw [nI_clamp (n := b) (by omega), hlb]
    refine br_t (nI_lt (by omega) (by omega)) ?_
    unfold wpX_codeAt
    rw [nn_ct]
    refine ⟨vp_in_nI (by omega) (by decide), nm_r (e' := nI 6) (by rw [nI_clamp (by omega)]; exact eo) ⟨pk_in _ 512 (by omega) (nn_a1 _) (by decide), nm_r (e' := nI A) (by rw [nn_a1, nI_clamp (by omega)]; exact ea) ⟨pk_in _ 512 (by omega) (nn_a2 _) (by decide), nm_r (e' := nI B) (by rw [nn_a2, nI_clamp (by omega)]; exact eB) ⟨pk_in _ 512 (by omega) (nn_a3 _) (by decide), nm_r (e' := nI K) (by rw [nn_a3, nI_clamp (by omega)]; exact eK) ?_⟩⟩⟩⟩
    refine br_f (by decide) (br_f (by decide) (br_f (by decide) (br_f (by decide) (br_f (by decide) (br_f (by decide) (br_t (by decide) ?_))))))
    unfold wX_step_190 wpX_stepPlain
    refine ⟨pk_in _ 96 (by omega) (nn_a9 _) (by decide), nm_r (e' := nI (p + 1)) (by rw [nn_a9, nI_clamp (by omega), epc, nn_a1]) ?_⟩
    refine br_f (by decide) (br_f (by decide) (br_f (by decide) (br_f (by decide) (br_f (by decide) (br_f (by decide) (br_f (by decide) (br_f (by decide) (br_t (by decide) ?_))))))))
    rw [nn_clA (by omega)]
    refine ⟨nn_inA (by omega) (by decide), br_t e ?_⟩
    unfold wX_stepPlain_143
    exact xm_169 (by omega) h
  · unfold wpY_step
    refine nm_r (e' := nI (G * 12)) (by rw [nI_pred, nn_m12]) ⟨pk_in _ 96 (by omega) (nn_a8 _) (by decide), nm_r (e' := nI b) (by rw [nn_a8, nI_clamp (by omega)]; exact ebl) ⟨pk_in _ 96 (by omega) (nn_a9 _) (by decide), nm_r (e' := nI p) (by rw [nn_a9, nI_clamp (by omega)]; exact epc) ⟨vp_in_nI hb (by decide), ?_⟩⟩⟩
    rw [nI_clamp (n := b) (by omega), hlb]
    rw [nn_ct]
    refine br_f (nI_ge (by omega) (by omega)) ⟨vp_in_nI (by omega) (by decide), ?_⟩
    rw [nI_clamp (n := (b * 32 + p) * 4) (by omega), eo]
    refine br_f (by decide) (nm_e ⟨vp_in_nI (by omega) (by decide), nm_r (e' := nI 6) (by rw [nI_clamp (by omega)]; exact eo) ⟨pk_in _ 512 (by omega) (nn_a1 _) (by decide), nm_r (e' := nI A) (by rw [nn_a1, nI_clamp (by omega)]; exact ea) ⟨pk_in _ 512 (by omega) (nn_a2 _) (by decide), nm_r (e' := nI B) (by rw [nn_a2, nI_clamp (by omega)]; exact eB) ⟨pk_in _ 512 (by omega) (nn_a3 _) (by decide), nm_r (e' := nI K) (by rw [nn_a3, nI_clamp (by omega)]; exact eK) (nm_r (nn_a1 p) ?_)⟩⟩⟩⟩)
    refine br_f (by decide) (br_f (by decide) (br_f (by decide) (br_f (by decide) (br_f (by decide) (br_t (by decide) ?_)))))
    rw [nn_clA (by omega)]
    exact ⟨nn_inA (by omega) (by decide), br_t e (ym_743 (by omega) h)⟩
theorem st_6b (hD : D ≤ 8) (hH : H ≤ 32) (hM : nv_M O (G + 1) U H D he fr) (hb : b < 4) (ebl : fr (G * 12 + 8) = nI b) (epc : fr (G * 12 + 9) = nI p) (hlb : ln b = nI l) (hl2 : l ≤ 32) (hp : p < l) (ea : pg ((b * 32 + p) * 4 + 1) = nI A) (eB : pg ((b * 32 + p) * 4 + 2) = nI B) (eK : pg ((b * 32 + p) * 4 + 3) = nI K) (eo : pg ((b * 32 + p) * 4) = nI 6) (hA : A < 8) (hB : B < 33) (e : ¬ fr (G * 12 + A) = -1) : nf_st G O U H D cc sel cs ec ep ms fk pn pi ln pg so ed he fr ou rc sn si sf tn ti tf := by
  have hF := hM.2.1
  have hO := hM.1
  refine ⟨ms, O, G + 1, U, he, upd fr (G * 12 + 9) (nI (B)), ou, by omega, (nv_Mf hM (fun k hk q => nv_frP q (by omega))), fun post h => ?_, fun yec yep ych post h => ?_⟩
  · unfold wpX_step
    refine nm_r (e' := nI (G * 12)) (by rw [nI_pred, nn_m12]) ⟨pk_in _ 96 (by omega) (nn_a8 _) (by decide), nm_r (e' := nI b) (by rw [nn_a8, nI_clamp (by omega)]; exact ebl) ⟨pk_in _ 96 (by omega) (nn_a9 _) (by decide), nm_r (e' := nI p) (by rw [nn_a9, nI_clamp (by omega)]; exact epc) ⟨vp_in_nI hb (by decide), ?_⟩⟩⟩
    rw [nI_clamp (n := b) (by omega), hlb]
    refine br_t (nI_lt (by omega) (by omega)) ?_
    unfold wpX_codeAt
    rw [nn_ct]
    refine ⟨vp_in_nI (by omega) (by decide), nm_r (e' := nI 6) (by rw [nI_clamp (by omega)]; exact eo) ⟨pk_in _ 512 (by omega) (nn_a1 _) (by decide), nm_r (e' := nI A) (by rw [nn_a1, nI_clamp (by omega)]; exact ea) ⟨pk_in _ 512 (by omega) (nn_a2 _) (by decide), nm_r (e' := nI B) (by rw [nn_a2, nI_clamp (by omega)]; exact eB) ⟨pk_in _ 512 (by omega) (nn_a3 _) (by decide), nm_r (e' := nI K) (by rw [nn_a3, nI_clamp (by omega)]; exact eK) ?_⟩⟩⟩⟩
    refine br_f (by decide) (br_f (by decide) (br_f (by decide) (br_f (by decide) (br_f (by decide) (br_f (by decide) (br_t (by decide) ?_))))))
    unfold wX_step_190 wpX_stepPlain
    refine ⟨pk_in _ 96 (by omega) (nn_a9 _) (by decide), nm_r (e' := nI (p + 1)) (by rw [nn_a9, nI_clamp (by omega), epc, nn_a1]) ?_⟩
    refine br_f (by decide) (br_f (by decide) (br_f (by decide) (br_f (by decide) (br_f (by decide) (br_f (by decide) (br_f (by decide) (br_f (by decide) (br_t (by decide) ?_))))))))
    rw [nn_clA (by omega)]
    refine ⟨nn_inA (by omega) (by decide), br_f e ?_⟩
    unfold wX_stepPlain_143
    exact xm_169 (by omega) h
  · unfold wpY_step
    refine nm_r (e' := nI (G * 12)) (by rw [nI_pred, nn_m12]) ⟨pk_in _ 96 (by omega) (nn_a8 _) (by decide), nm_r (e' := nI b) (by rw [nn_a8, nI_clamp (by omega)]; exact ebl) ⟨pk_in _ 96 (by omega) (nn_a9 _) (by decide), nm_r (e' := nI p) (by rw [nn_a9, nI_clamp (by omega)]; exact epc) ⟨vp_in_nI hb (by decide), ?_⟩⟩⟩
    rw [nI_clamp (n := b) (by omega), hlb]
    rw [nn_ct]
    refine br_f (nI_ge (by omega) (by omega)) ⟨vp_in_nI (by omega) (by decide), ?_⟩
    rw [nI_clamp (n := (b * 32 + p) * 4) (by omega), eo]
    refine br_f (by decide) (nm_e ⟨vp_in_nI (by omega) (by decide), nm_r (e' := nI 6) (by rw [nI_clamp (by omega)]; exact eo) ⟨pk_in _ 512 (by omega) (nn_a1 _) (by decide), nm_r (e' := nI A) (by rw [nn_a1, nI_clamp (by omega)]; exact ea) ⟨pk_in _ 512 (by omega) (nn_a2 _) (by decide), nm_r (e' := nI B) (by rw [nn_a2, nI_clamp (by omega)]; exact eB) ⟨pk_in _ 512 (by omega) (nn_a3 _) (by decide), nm_r (e' := nI K) (by rw [nn_a3, nI_clamp (by omega)]; exact eK) (nm_r (nn_a1 p) ?_)⟩⟩⟩⟩)
    refine br_f (by decide) (br_f (by decide) (br_f (by decide) (br_f (by decide) (br_f (by decide) (br_t (by decide) ?_)))))
    rw [nn_clA (by omega)]
    exact ⟨nn_inA (by omega) (by decide), br_f e (ym_743 (by omega) h)⟩
theorem st_9a (hD : D ≤ 8) (hH : H ≤ 32) (hM : nv_M O (G + 1) U H D he fr) (hb : b < 4) (ebl : fr (G * 12 + 8) = nI b) (epc : fr (G * 12 + 9) = nI p) (hlb : ln b = nI l) (hl2 : l ≤ 32) (hp : p < l) (ea : pg ((b * 32 + p) * 4 + 1) = nI A) (eB : pg ((b * 32 + p) * 4 + 2) = nI B) (eK : pg ((b * 32 + p) * 4 + 3) = nI K) (eo : pg ((b * 32 + p) * 4) = nI 9) (hA : A < 8) (e : 16 ≤ U) : nf_st G O U H D cc sel cs ec ep ms fk pn pi ln pg so ed he fr ou rc sn si sf tn ti tf := by
  have hF := hM.2.1
  have hO := hM.1
  have hU := hM.2.2.1
  refine ⟨ms, O, G + 1, U, he, upd fr (G * 12 + 9) (nI (p + 1)), ou, by omega, (nv_Mf hM (fun k hk q => nv_frP q (by omega))), fun post h => ?_, fun yec yep ych post h => ?_⟩
  · unfold wpX_step
    refine nm_r (e' := nI (G * 12)) (by rw [nI_pred, nn_m12]) ⟨pk_in _ 96 (by omega) (nn_a8 _) (by decide), nm_r (e' := nI b) (by rw [nn_a8, nI_clamp (by omega)]; exact ebl) ⟨pk_in _ 96 (by omega) (nn_a9 _) (by decide), nm_r (e' := nI p) (by rw [nn_a9, nI_clamp (by omega)]; exact epc) ⟨vp_in_nI hb (by decide), ?_⟩⟩⟩
    rw [nI_clamp (n := b) (by omega), hlb]
    refine br_t (nI_lt (by omega) (by omega)) ?_
    unfold wpX_codeAt
    rw [nn_ct]
    refine ⟨vp_in_nI (by omega) (by decide), nm_r (e' := nI 9) (by rw [nI_clamp (by omega)]; exact eo) ⟨pk_in _ 512 (by omega) (nn_a1 _) (by decide), nm_r (e' := nI A) (by rw [nn_a1, nI_clamp (by omega)]; exact ea) ⟨pk_in _ 512 (by omega) (nn_a2 _) (by decide), nm_r (e' := nI B) (by rw [nn_a2, nI_clamp (by omega)]; exact eB) ⟨pk_in _ 512 (by omega) (nn_a3 _) (by decide), nm_r (e' := nI K) (by rw [nn_a3, nI_clamp (by omega)]; exact eK) ?_⟩⟩⟩⟩
    refine br_f (by decide) (br_t (by decide) ?_)
    unfold wX_step_190 wpX_stepPlain
    refine ⟨pk_in _ 96 (by omega) (nn_a9 _) (by decide), nm_r (e' := nI (p + 1)) (by rw [nn_a9, nI_clamp (by omega), epc, nn_a1]) ?_⟩
    refine br_f (by decide) (br_f (by decide) (br_f (by decide) (br_f (by decide) (br_f (by decide) (br_f (by decide) (br_f (by decide) (br_f (by decide) (br_f (by decide) (br_f (by decide) (br_f (by decide) (br_t (by decide) ?_)))))))))))
    refine ⟨nn_inA (by omega) (by decide), ?_⟩
    unfold wpX_appendOutput
    exact br_t ((nl_ge16 (by omega)).mpr e) (xm_169 (by omega) h)
  · unfold wpY_step
    refine nm_r (e' := nI (G * 12)) (by rw [nI_pred, nn_m12]) ⟨pk_in _ 96 (by omega) (nn_a8 _) (by decide), nm_r (e' := nI b) (by rw [nn_a8, nI_clamp (by omega)]; exact ebl) ⟨pk_in _ 96 (by omega) (nn_a9 _) (by decide), nm_r (e' := nI p) (by rw [nn_a9, nI_clamp (by omega)]; exact epc) ⟨vp_in_nI hb (by decide), ?_⟩⟩⟩
    rw [nI_clamp (n := b) (by omega), hlb]
    rw [nn_ct]
    refine br_f (nI_ge (by omega) (by omega)) ⟨vp_in_nI (by omega) (by decide), ?_⟩
    rw [nI_clamp (n := (b * 32 + p) * 4) (by omega), eo]
    refine br_f (by decide) (nm_e ⟨vp_in_nI (by omega) (by decide), nm_r (e' := nI 9) (by rw [nI_clamp (by omega)]; exact eo) ⟨pk_in _ 512 (by omega) (nn_a1 _) (by decide), nm_r (e' := nI A) (by rw [nn_a1, nI_clamp (by omega)]; exact ea) ⟨pk_in _ 512 (by omega) (nn_a2 _) (by decide), nm_r (e' := nI B) (by rw [nn_a2, nI_clamp (by omega)]; exact eB) ⟨pk_in _ 512 (by omega) (nn_a3 _) (by decide), nm_r (e' := nI K) (by rw [nn_a3, nI_clamp (by omega)]; exact eK) (nm_r (nn_a1 p) ?_)⟩⟩⟩⟩)
    refine br_f (by decide) (br_f (by decide) (br_t (by decide) ?_))
    exact br_t ((nl_ge16 (by omega)).mpr e) (ym_743 (by omega) h)
theorem st_9b (hD : D ≤ 8) (hH : H ≤ 32) (hM : nv_M O (G + 1) U H D he fr) (hb : b < 4) (ebl : fr (G * 12 + 8) = nI b) (epc : fr (G * 12 + 9) = nI p) (hlb : ln b = nI l) (hl2 : l ≤ 32) (hp : p < l) (ea : pg ((b * 32 + p) * 4 + 1) = nI A) (eB : pg ((b * 32 + p) * 4 + 2) = nI B) (eK : pg ((b * 32 + p) * 4 + 3) = nI K) (eo : pg ((b * 32 + p) * 4) = nI 9) (hA : A < 8) (e : U < 16) : nf_st G O U H D cc sel cs ec ep ms fk pn pi ln pg so ed he fr ou rc sn si sf tn ti tf := by
  have hF := hM.2.1
  have hO := hM.1
  refine ⟨ms, O, G + 1, U + 1, he, upd fr (G * 12 + 9) (nI (p + 1)), upd ou U (fr (G * 12 + A)), by omega, (nv_Mu (nv_Mf hM (fun k hk q => nv_frP q (by omega))) (by omega)), fun post h => ?_, fun yec yep ych post h => ?_⟩
  · unfold wpX_step
    refine nm_r (e' := nI (G * 12)) (by rw [nI_pred, nn_m12]) ⟨pk_in _ 96 (by omega) (nn_a8 _) (by decide), nm_r (e' := nI b) (by rw [nn_a8, nI_clamp (by omega)]; exact ebl) ⟨pk_in _ 96 (by omega) (nn_a9 _) (by decide), nm_r (e' := nI p) (by rw [nn_a9, nI_clamp (by omega)]; exact epc) ⟨vp_in_nI hb (by decide), ?_⟩⟩⟩
    rw [nI_clamp (n := b) (by omega), hlb]
    refine br_t (nI_lt (by omega) (by omega)) ?_
    unfold wpX_codeAt
    rw [nn_ct]
    refine ⟨vp_in_nI (by omega) (by decide), nm_r (e' := nI 9) (by rw [nI_clamp (by omega)]; exact eo) ⟨pk_in _ 512 (by omega) (nn_a1 _) (by decide), nm_r (e' := nI A) (by rw [nn_a1, nI_clamp (by omega)]; exact ea) ⟨pk_in _ 512 (by omega) (nn_a2 _) (by decide), nm_r (e' := nI B) (by rw [nn_a2, nI_clamp (by omega)]; exact eB) ⟨pk_in _ 512 (by omega) (nn_a3 _) (by decide), nm_r (e' := nI K) (by rw [nn_a3, nI_clamp (by omega)]; exact eK) ?_⟩⟩⟩⟩
    refine br_f (by decide) (br_t (by decide) ?_)
    unfold wX_step_190 wpX_stepPlain
    refine ⟨pk_in _ 96 (by omega) (nn_a9 _) (by decide), nm_r (e' := nI (p + 1)) (by rw [nn_a9, nI_clamp (by omega), epc, nn_a1]) ?_⟩
    refine br_f (by decide) (br_f (by decide) (br_f (by decide) (br_f (by decide) (br_f (by decide) (br_f (by decide) (br_f (by decide) (br_f (by decide) (br_f (by decide) (br_f (by decide) (br_f (by decide) (br_t (by decide) ?_)))))))))))
    rw [nn_clA (by omega)]
    refine ⟨nn_inA (by omega) (by decide), ?_⟩
    unfold wpX_appendOutput
    exact br_f (fun q => by have := (nl_ge16 (by omega)).mp q; omega) ⟨vp_in_nI e (by decide), nm_r (e' := upd ou U (fr (G * 12 + A))) (by rw [nI_clamp (by omega)]) (nm_r (nn_a1 U) (xm_169 (by omega) h))⟩
  · unfold wpY_step
    refine nm_r (e' := nI (G * 12)) (by rw [nI_pred, nn_m12]) ⟨pk_in _ 96 (by omega) (nn_a8 _) (by decide), nm_r (e' := nI b) (by rw [nn_a8, nI_clamp (by omega)]; exact ebl) ⟨pk_in _ 96 (by omega) (nn_a9 _) (by decide), nm_r (e' := nI p) (by rw [nn_a9, nI_clamp (by omega)]; exact epc) ⟨vp_in_nI hb (by decide), ?_⟩⟩⟩
    rw [nI_clamp (n := b) (by omega), hlb]
    rw [nn_ct]
    refine br_f (nI_ge (by omega) (by omega)) ⟨vp_in_nI (by omega) (by decide), ?_⟩
    rw [nI_clamp (n := (b * 32 + p) * 4) (by omega), eo]
    refine br_f (by decide) (nm_e ⟨vp_in_nI (by omega) (by decide), nm_r (e' := nI 9) (by rw [nI_clamp (by omega)]; exact eo) ⟨pk_in _ 512 (by omega) (nn_a1 _) (by decide), nm_r (e' := nI A) (by rw [nn_a1, nI_clamp (by omega)]; exact ea) ⟨pk_in _ 512 (by omega) (nn_a2 _) (by decide), nm_r (e' := nI B) (by rw [nn_a2, nI_clamp (by omega)]; exact eB) ⟨pk_in _ 512 (by omega) (nn_a3 _) (by decide), nm_r (e' := nI K) (by rw [nn_a3, nI_clamp (by omega)]; exact eK) (nm_r (nn_a1 p) ?_)⟩⟩⟩⟩)
    refine br_f (by decide) (br_f (by decide) (br_t (by decide) ?_))
    rw [nn_clA (by omega), nI_clamp (n := U) (by omega)]
    exact br_f (fun q => by have := (nl_ge16 (by omega)).mp q; omega) ⟨nn_inA (by omega) (by decide), vp_in_nI e (by decide), nm_e (nm_r (nn_a1 U) (ym_743 (by omega) h))⟩
theorem st_3a (hD : D ≤ 8) (hH : H ≤ 32) (hM : nv_M O (G + 1) U H D he fr) (hb : b < 4) (ebl : fr (G * 12 + 8) = nI b) (epc : fr (G * 12 + 9) = nI p) (hlb : ln b = nI l) (hl2 : l ≤ 32) (hp : p < l) (ea : pg ((b * 32 + p) * 4 + 1) = nI A) (eB : pg ((b * 32 + p) * 4 + 2) = nI B) (eK : pg ((b * 32 + p) * 4 + 3) = nI K) (eo : pg ((b * 32 + p) * 4) = nI 3) (hA : A < 8) (hB : B < 8) (hK : K < 4) (e : fr (G * 12 + B) = -1) : nf_st G O U H D cc sel cs ec ep ms fk pn pi ln pg so ed he fr ou rc sn si sf tn ti tf := by
  have hF := hM.2.1
  have hO := hM.1
  refine ⟨23, O, G + 1, U, he, fr, ou, by omega, hM, fun post h => ?_, fun yec yep ych post h => ?_⟩
  · unfold wpX_step
    refine nm_r (e' := nI (G * 12)) (by rw [nI_pred, nn_m12]) ⟨pk_in _ 96 (by omega) (nn_a8 _) (by decide), nm_r (e' := nI b) (by rw [nn_a8, nI_clamp (by omega)]; exact ebl) ⟨pk_in _ 96 (by omega) (nn_a9 _) (by decide), nm_r (e' := nI p) (by rw [nn_a9, nI_clamp (by omega)]; exact epc) ⟨vp_in_nI hb (by decide), ?_⟩⟩⟩
    rw [nI_clamp (n := b) (by omega), hlb]
    refine br_t (nI_lt (by omega) (by omega)) ?_
    unfold wpX_codeAt
    rw [nn_ct]
    refine ⟨vp_in_nI (by omega) (by decide), nm_r (e' := nI 3) (by rw [nI_clamp (by omega)]; exact eo) ⟨pk_in _ 512 (by omega) (nn_a1 _) (by decide), nm_r (e' := nI A) (by rw [nn_a1, nI_clamp (by omega)]; exact ea) ⟨pk_in _ 512 (by omega) (nn_a2 _) (by decide), nm_r (e' := nI B) (by rw [nn_a2, nI_clamp (by omega)]; exact eB) ⟨pk_in _ 512 (by omega) (nn_a3 _) (by decide), nm_r (e' := nI K) (by rw [nn_a3, nI_clamp (by omega)]; exact eK) ?_⟩⟩⟩⟩
    refine br_f (by decide) (br_f (by decide) (br_f (by decide) (br_t (by decide) ?_)))
    unfold wpX_stepGet
    rw [nn_clA (a := G * 12) (b := B) (by omega)]
    exact ⟨nn_inA (by omega) (by decide), nm_r e (br_t rfl h)⟩
  · unfold wpY_step
    refine nm_r (e' := nI (G * 12)) (by rw [nI_pred, nn_m12]) ⟨pk_in _ 96 (by omega) (nn_a8 _) (by decide), nm_r (e' := nI b) (by rw [nn_a8, nI_clamp (by omega)]; exact ebl) ⟨pk_in _ 96 (by omega) (nn_a9 _) (by decide), nm_r (e' := nI p) (by rw [nn_a9, nI_clamp (by omega)]; exact epc) ⟨vp_in_nI hb (by decide), ?_⟩⟩⟩
    rw [nI_clamp (n := b) (by omega), hlb]
    rw [nn_ct]
    refine br_f (nI_ge (by omega) (by omega)) ⟨vp_in_nI (by omega) (by decide), ?_⟩
    rw [nI_clamp (n := (b * 32 + p) * 4) (by omega), eo]
    refine br_f (by decide) (nm_e ⟨vp_in_nI (by omega) (by decide), nm_r (e' := nI 3) (by rw [nI_clamp (by omega)]; exact eo) ⟨pk_in _ 512 (by omega) (nn_a1 _) (by decide), nm_r (e' := nI A) (by rw [nn_a1, nI_clamp (by omega)]; exact ea) ⟨pk_in _ 512 (by omega) (nn_a2 _) (by decide), nm_r (e' := nI B) (by rw [nn_a2, nI_clamp (by omega)]; exact eB) ⟨pk_in _ 512 (by omega) (nn_a3 _) (by decide), nm_r (e' := nI K) (by rw [nn_a3, nI_clamp (by omega)]; exact eK) (nm_r (nn_a1 p) ?_)⟩⟩⟩⟩)
    refine br_f (by decide) (br_f (by decide) (br_f (by decide) (br_f (by decide) (br_f (by decide) (br_f (by decide) (br_t (by decide) ?_))))))
    rw [nn_clA (a := G * 12) (b := B) (by omega)]
    exact ⟨nn_inA (by omega) (by decide), nm_r e (br_f (by decide) h)⟩
theorem st_3b (hD : D ≤ 8) (hH : H ≤ 32) (hM : nv_M O (G + 1) U H D he fr) (hb : b < 4) (ebl : fr (G * 12 + 8) = nI b) (epc : fr (G * 12 + 9) = nI p) (hlb : ln b = nI l) (hl2 : l ≤ 32) (hp : p < l) (ea : pg ((b * 32 + p) * 4 + 1) = nI A) (eB : pg ((b * 32 + p) * 4 + 2) = nI B) (eK : pg ((b * 32 + p) * 4 + 3) = nI K) (eo : pg ((b * 32 + p) * 4) = nI 3) (hA : A < 8) (hB : B < 8) (hK : K < 4) {q : Nat} (hq : q < O) (e : fr (G * 12 + B) = nI q) (e2 : he (q * 4 + K) = -1) (e3 : fk K = 0) : nf_st G O U H D cc sel cs ec ep ms fk pn pi ln pg so ed he fr ou rc sn si sf tn ti tf := by
  have hF := hM.2.1
  have hO := hM.1
  have c4 : (nI (q * 4) + nI K).toNatClampNeg = q * 4 + K := nn_clA (by omega)
  have v4 : vp_in (nI (q * 4) + nI K) 128 := nn_inA (by omega) (by decide)
  refine ⟨24, O, G + 1, U, he, fr, ou, by omega, hM, fun post h => ?_, fun yec yep ych post h => ?_⟩
  · unfold wpX_step
    refine nm_r (e' := nI (G * 12)) (by rw [nI_pred, nn_m12]) ⟨pk_in _ 96 (by omega) (nn_a8 _) (by decide), nm_r (e' := nI b) (by rw [nn_a8, nI_clamp (by omega)]; exact ebl) ⟨pk_in _ 96 (by omega) (nn_a9 _) (by decide), nm_r (e' := nI p) (by rw [nn_a9, nI_clamp (by omega)]; exact epc) ⟨vp_in_nI hb (by decide), ?_⟩⟩⟩
    rw [nI_clamp (n := b) (by omega), hlb]
    refine br_t (nI_lt (by omega) (by omega)) ?_
    unfold wpX_codeAt
    rw [nn_ct]
    refine ⟨vp_in_nI (by omega) (by decide), nm_r (e' := nI 3) (by rw [nI_clamp (by omega)]; exact eo) ⟨pk_in _ 512 (by omega) (nn_a1 _) (by decide), nm_r (e' := nI A) (by rw [nn_a1, nI_clamp (by omega)]; exact ea) ⟨pk_in _ 512 (by omega) (nn_a2 _) (by decide), nm_r (e' := nI B) (by rw [nn_a2, nI_clamp (by omega)]; exact eB) ⟨pk_in _ 512 (by omega) (nn_a3 _) (by decide), nm_r (e' := nI K) (by rw [nn_a3, nI_clamp (by omega)]; exact eK) ?_⟩⟩⟩⟩
    refine br_f (by decide) (br_f (by decide) (br_f (by decide) (br_t (by decide) ?_)))
    unfold wpX_stepGet
    rw [nn_clA (a := G * 12) (b := B) (by omega)]
    refine ⟨nn_inA (by omega) (by decide), nm_r e (br_f (nc_m1 (by omega)) ?_)⟩
    rw [nn_m4, c4]
    refine ⟨v4, nm_r e2 (br_t rfl ⟨vp_in_nI hK (by decide), ?_⟩)⟩
    rw [nI_clamp (n := K) (by omega)]
    exact br_t e3 h
  · unfold wpY_step
    refine nm_r (e' := nI (G * 12)) (by rw [nI_pred, nn_m12]) ⟨pk_in _ 96 (by omega) (nn_a8 _) (by decide), nm_r (e' := nI b) (by rw [nn_a8, nI_clamp (by omega)]; exact ebl) ⟨pk_in _ 96 (by omega) (nn_a9 _) (by decide), nm_r (e' := nI p) (by rw [nn_a9, nI_clamp (by omega)]; exact epc) ⟨vp_in_nI hb (by decide), ?_⟩⟩⟩
    rw [nI_clamp (n := b) (by omega), hlb]
    rw [nn_ct]
    refine br_f (nI_ge (by omega) (by omega)) ⟨vp_in_nI (by omega) (by decide), ?_⟩
    rw [nI_clamp (n := (b * 32 + p) * 4) (by omega), eo]
    refine br_f (by decide) (nm_e ⟨vp_in_nI (by omega) (by decide), nm_r (e' := nI 3) (by rw [nI_clamp (by omega)]; exact eo) ⟨pk_in _ 512 (by omega) (nn_a1 _) (by decide), nm_r (e' := nI A) (by rw [nn_a1, nI_clamp (by omega)]; exact ea) ⟨pk_in _ 512 (by omega) (nn_a2 _) (by decide), nm_r (e' := nI B) (by rw [nn_a2, nI_clamp (by omega)]; exact eB) ⟨pk_in _ 512 (by omega) (nn_a3 _) (by decide), nm_r (e' := nI K) (by rw [nn_a3, nI_clamp (by omega)]; exact eK) (nm_r (nn_a1 p) ?_)⟩⟩⟩⟩)
    refine br_f (by decide) (br_f (by decide) (br_f (by decide) (br_f (by decide) (br_f (by decide) (br_f (by decide) (br_t (by decide) ?_))))))
    rw [nn_clA (a := G * 12) (b := B) (by omega)]
    refine ⟨nn_inA (by omega) (by decide), nm_r e (br_t (nI_pos' (by omega)) ?_)⟩
    rw [nn_m4, c4]
    refine ⟨v4, nm_r e2 (br_f (by decide) ⟨vp_in_nI hK (by decide), ?_⟩)⟩
    rw [nI_clamp (n := K) (by omega)]
    exact br_t e3 h
theorem st_3c (hD : D ≤ 8) (hH : H ≤ 32) (hM : nv_M O (G + 1) U H D he fr) (hb : b < 4) (ebl : fr (G * 12 + 8) = nI b) (epc : fr (G * 12 + 9) = nI p) (hlb : ln b = nI l) (hl2 : l ≤ 32) (hp : p < l) (ea : pg ((b * 32 + p) * 4 + 1) = nI A) (eB : pg ((b * 32 + p) * 4 + 2) = nI B) (eK : pg ((b * 32 + p) * 4 + 3) = nI K) (eo : pg ((b * 32 + p) * 4) = nI 3) (hA : A < 8) (hB : B < 8) (hK : K < 4) {q : Nat} (hq : q < O) (e : fr (G * 12 + B) = nI q) (e2 : he (q * 4 + K) = -1) (e3 : ¬ fk K = 0) : nf_st G O U H D cc sel cs ec ep ms fk pn pi ln pg so ed he fr ou rc sn si sf tn ti tf := by
  have hF := hM.2.1
  have hO := hM.1
  have c4 : (nI (q * 4) + nI K).toNatClampNeg = q * 4 + K := nn_clA (by omega)
  have v4 : vp_in (nI (q * 4) + nI K) 128 := nn_inA (by omega) (by decide)
  refine ⟨ms, O, G + 1, U, he, upd (upd fr (G * 12 + A) (he (q * 4 + K))) (G * 12 + 9) (nI (p + 1)), ou, by omega, (nv_Mf hM (fun k hk z => nv_frP (nv_frL z hA (hM.2.2.2.1 _ (by omega))) (by omega))), fun post h => ?_, fun yec yep ych post h => ?_⟩
  · unfold wpX_step
    refine nm_r (e' := nI (G * 12)) (by rw [nI_pred, nn_m12]) ⟨pk_in _ 96 (by omega) (nn_a8 _) (by decide), nm_r (e' := nI b) (by rw [nn_a8, nI_clamp (by omega)]; exact ebl) ⟨pk_in _ 96 (by omega) (nn_a9 _) (by decide), nm_r (e' := nI p) (by rw [nn_a9, nI_clamp (by omega)]; exact epc) ⟨vp_in_nI hb (by decide), ?_⟩⟩⟩
    rw [nI_clamp (n := b) (by omega), hlb]
    refine br_t (nI_lt (by omega) (by omega)) ?_
    unfold wpX_codeAt
    rw [nn_ct]
    refine ⟨vp_in_nI (by omega) (by decide), nm_r (e' := nI 3) (by rw [nI_clamp (by omega)]; exact eo) ⟨pk_in _ 512 (by omega) (nn_a1 _) (by decide), nm_r (e' := nI A) (by rw [nn_a1, nI_clamp (by omega)]; exact ea) ⟨pk_in _ 512 (by omega) (nn_a2 _) (by decide), nm_r (e' := nI B) (by rw [nn_a2, nI_clamp (by omega)]; exact eB) ⟨pk_in _ 512 (by omega) (nn_a3 _) (by decide), nm_r (e' := nI K) (by rw [nn_a3, nI_clamp (by omega)]; exact eK) ?_⟩⟩⟩⟩
    refine br_f (by decide) (br_f (by decide) (br_f (by decide) (br_t (by decide) ?_)))
    unfold wpX_stepGet
    rw [nn_clA (a := G * 12) (b := B) (by omega)]
    refine ⟨nn_inA (by omega) (by decide), nm_r e (br_f (nc_m1 (by omega)) ?_)⟩
    rw [nn_m4, c4]
    refine ⟨v4, nm_e (br_t e2 ⟨vp_in_nI hK (by decide), ?_⟩)⟩
    rw [nI_clamp (n := K) (by omega)]
    refine br_f e3 ?_
    unfold wX_stepGet_60
    rw [nn_clA (a := G * 12) (b := A) (by omega), nn_a9, nI_clamp (n := G * 12 + 9) (by omega)]
    refine ⟨nn_inA (by omega) (by decide), nm_e ⟨vp_in_nI (by omega) (by decide), vp_in_nI (by omega) (by decide), nm_r ?_ h⟩⟩
    rw [pk_un (by omega), epc, nn_a1]
  · unfold wpY_step
    refine nm_r (e' := nI (G * 12)) (by rw [nI_pred, nn_m12]) ⟨pk_in _ 96 (by omega) (nn_a8 _) (by decide), nm_r (e' := nI b) (by rw [nn_a8, nI_clamp (by omega)]; exact ebl) ⟨pk_in _ 96 (by omega) (nn_a9 _) (by decide), nm_r (e' := nI p) (by rw [nn_a9, nI_clamp (by omega)]; exact epc) ⟨vp_in_nI hb (by decide), ?_⟩⟩⟩
    rw [nI_clamp (n := b) (by omega), hlb]
    rw [nn_ct]
    refine br_f (nI_ge (by omega) (by omega)) ⟨vp_in_nI (by omega) (by decide), ?_⟩
    rw [nI_clamp (n := (b * 32 + p) * 4) (by omega), eo]
    refine br_f (by decide) (nm_e ⟨vp_in_nI (by omega) (by decide), nm_r (e' := nI 3) (by rw [nI_clamp (by omega)]; exact eo) ⟨pk_in _ 512 (by omega) (nn_a1 _) (by decide), nm_r (e' := nI A) (by rw [nn_a1, nI_clamp (by omega)]; exact ea) ⟨pk_in _ 512 (by omega) (nn_a2 _) (by decide), nm_r (e' := nI B) (by rw [nn_a2, nI_clamp (by omega)]; exact eB) ⟨pk_in _ 512 (by omega) (nn_a3 _) (by decide), nm_r (e' := nI K) (by rw [nn_a3, nI_clamp (by omega)]; exact eK) (nm_r (nn_a1 p) ?_)⟩⟩⟩⟩)
    refine br_f (by decide) (br_f (by decide) (br_f (by decide) (br_f (by decide) (br_f (by decide) (br_f (by decide) (br_t (by decide) ?_))))))
    rw [nn_clA (a := G * 12) (b := B) (by omega)]
    have Z : wY_step_406 post (nI (G * 12)) (nI A) (nI (p + 1)) (he (q * 4 + K)) cc (nI H) (nI D) sel yec yep cs ms (nI O) (nI U) (nI (G + 1)) ych fk pn pi ln pg rc sn si sf tn ti tf he ou fr := by
      unfold wY_step_406
      rw [nn_clA (a := G * 12) (b := A) (by omega)]
      exact ⟨nn_inA (by omega) (by decide), nm_e (ym_743 (by omega) h)⟩
    refine ⟨nn_inA (by omega) (by decide), nm_r e (br_t (nI_pos' (by omega)) ?_)⟩
    rw [nn_m4, c4]
    refine ⟨v4, nm_e (br_f (by rw [e2]; decide) ⟨vp_in_nI hK (by decide), ?_⟩)⟩
    rw [nI_clamp (n := K) (by omega)]
    exact br_f e3 Z
theorem st_3d (hD : D ≤ 8) (hH : H ≤ 32) (hM : nv_M O (G + 1) U H D he fr) (hb : b < 4) (ebl : fr (G * 12 + 8) = nI b) (epc : fr (G * 12 + 9) = nI p) (hlb : ln b = nI l) (hl2 : l ≤ 32) (hp : p < l) (ea : pg ((b * 32 + p) * 4 + 1) = nI A) (eB : pg ((b * 32 + p) * 4 + 2) = nI B) (eK : pg ((b * 32 + p) * 4 + 3) = nI K) (eo : pg ((b * 32 + p) * 4) = nI 3) (hA : A < 8) (hB : B < 8) (hK : K < 4) {q r : Nat} (hq : q < O) (e : fr (G * 12 + B) = nI q) (hr : r < O) (e2 : he (q * 4 + K) = nI r) : nf_st G O U H D cc sel cs ec ep ms fk pn pi ln pg so ed he fr ou rc sn si sf tn ti tf := by
  have hF := hM.2.1
  have hO := hM.1
  have c4 : (nI (q * 4) + nI K).toNatClampNeg = q * 4 + K := nn_clA (by omega)
  have v4 : vp_in (nI (q * 4) + nI K) 128 := nn_inA (by omega) (by decide)
  refine ⟨ms, O, G + 1, U, he, upd (upd fr (G * 12 + A) (he (q * 4 + K))) (G * 12 + 9) (nI (p + 1)), ou, by omega, (nv_Mf hM (fun k hk z => nv_frP (nv_frL z hA (hM.2.2.2.1 _ (by omega))) (by omega))), fun post h => ?_, fun yec yep ych post h => ?_⟩
  · unfold wpX_step
    refine nm_r (e' := nI (G * 12)) (by rw [nI_pred, nn_m12]) ⟨pk_in _ 96 (by omega) (nn_a8 _) (by decide), nm_r (e' := nI b) (by rw [nn_a8, nI_clamp (by omega)]; exact ebl) ⟨pk_in _ 96 (by omega) (nn_a9 _) (by decide), nm_r (e' := nI p) (by rw [nn_a9, nI_clamp (by omega)]; exact epc) ⟨vp_in_nI hb (by decide), ?_⟩⟩⟩
    rw [nI_clamp (n := b) (by omega), hlb]
    refine br_t (nI_lt (by omega) (by omega)) ?_
    unfold wpX_codeAt
    rw [nn_ct]
    refine ⟨vp_in_nI (by omega) (by decide), nm_r (e' := nI 3) (by rw [nI_clamp (by omega)]; exact eo) ⟨pk_in _ 512 (by omega) (nn_a1 _) (by decide), nm_r (e' := nI A) (by rw [nn_a1, nI_clamp (by omega)]; exact ea) ⟨pk_in _ 512 (by omega) (nn_a2 _) (by decide), nm_r (e' := nI B) (by rw [nn_a2, nI_clamp (by omega)]; exact eB) ⟨pk_in _ 512 (by omega) (nn_a3 _) (by decide), nm_r (e' := nI K) (by rw [nn_a3, nI_clamp (by omega)]; exact eK) ?_⟩⟩⟩⟩
    refine br_f (by decide) (br_f (by decide) (br_f (by decide) (br_t (by decide) ?_)))
    unfold wpX_stepGet
    rw [nn_clA (a := G * 12) (b := B) (by omega)]
    refine ⟨nn_inA (by omega) (by decide), nm_r e (br_f (nc_m1 (by omega)) ?_)⟩
    rw [nn_m4, c4]
    refine ⟨v4, nm_e (br_f (by rw [e2]; exact nc_m1 (by omega)) ?_)⟩
    unfold wX_stepGet_60
    rw [nn_clA (a := G * 12) (b := A) (by omega), nn_a9, nI_clamp (n := G * 12 + 9) (by omega)]
    refine ⟨nn_inA (by omega) (by decide), nm_e ⟨vp_in_nI (by omega) (by decide), vp_in_nI (by omega) (by decide), nm_r ?_ h⟩⟩
    rw [pk_un (by omega), epc, nn_a1]
  · unfold wpY_step
    refine nm_r (e' := nI (G * 12)) (by rw [nI_pred, nn_m12]) ⟨pk_in _ 96 (by omega) (nn_a8 _) (by decide), nm_r (e' := nI b) (by rw [nn_a8, nI_clamp (by omega)]; exact ebl) ⟨pk_in _ 96 (by omega) (nn_a9 _) (by decide), nm_r (e' := nI p) (by rw [nn_a9, nI_clamp (by omega)]; exact epc) ⟨vp_in_nI hb (by decide), ?_⟩⟩⟩
    rw [nI_clamp (n := b) (by omega), hlb]
    rw [nn_ct]
    refine br_f (nI_ge (by omega) (by omega)) ⟨vp_in_nI (by omega) (by decide), ?_⟩
    rw [nI_clamp (n := (b * 32 + p) * 4) (by omega), eo]
    refine br_f (by decide) (nm_e ⟨vp_in_nI (by omega) (by decide), nm_r (e' := nI 3) (by rw [nI_clamp (by omega)]; exact eo) ⟨pk_in _ 512 (by omega) (nn_a1 _) (by decide), nm_r (e' := nI A) (by rw [nn_a1, nI_clamp (by omega)]; exact ea) ⟨pk_in _ 512 (by omega) (nn_a2 _) (by decide), nm_r (e' := nI B) (by rw [nn_a2, nI_clamp (by omega)]; exact eB) ⟨pk_in _ 512 (by omega) (nn_a3 _) (by decide), nm_r (e' := nI K) (by rw [nn_a3, nI_clamp (by omega)]; exact eK) (nm_r (nn_a1 p) ?_)⟩⟩⟩⟩)
    refine br_f (by decide) (br_f (by decide) (br_f (by decide) (br_f (by decide) (br_f (by decide) (br_f (by decide) (br_t (by decide) ?_))))))
    rw [nn_clA (a := G * 12) (b := B) (by omega)]
    have Z : wY_step_406 post (nI (G * 12)) (nI A) (nI (p + 1)) (he (q * 4 + K)) cc (nI H) (nI D) sel yec yep cs ms (nI O) (nI U) (nI (G + 1)) ych fk pn pi ln pg rc sn si sf tn ti tf he ou fr := by
      unfold wY_step_406
      rw [nn_clA (a := G * 12) (b := A) (by omega)]
      exact ⟨nn_inA (by omega) (by decide), nm_e (ym_743 (by omega) h)⟩
    refine ⟨nn_inA (by omega) (by decide), nm_r e (br_t (nI_pos' (by omega)) ?_)⟩
    rw [nn_m4, c4]
    exact ⟨v4, nm_e (br_t (by rw [e2]; exact nI_pos' (by omega)) Z)⟩
theorem st_4a (hD : D ≤ 8) (hH : H ≤ 32) (hM : nv_M O (G + 1) U H D he fr) (hb : b < 4) (ebl : fr (G * 12 + 8) = nI b) (epc : fr (G * 12 + 9) = nI p) (hlb : ln b = nI l) (hl2 : l ≤ 32) (hp : p < l) (ea : pg ((b * 32 + p) * 4 + 1) = nI A) (eB : pg ((b * 32 + p) * 4 + 2) = nI B) (eK : pg ((b * 32 + p) * 4 + 3) = nI K) (eo : pg ((b * 32 + p) * 4) = nI 4) (hA : A < 8) (hB : B < 4) (hK : K < 8) (e : fr (G * 12 + A) = -1) : nf_st G O U H D cc sel cs ec ep ms fk pn pi ln pg so ed he fr ou rc sn si sf tn ti tf := by
  have hF := hM.2.1
  have hO := hM.1
  refine ⟨23, O, G + 1, U, he, fr, ou, by omega, hM, fun post h => ?_, fun yec yep ych post h => ?_⟩
  · unfold wpX_step
    refine nm_r (e' := nI (G * 12)) (by rw [nI_pred, nn_m12]) ⟨pk_in _ 96 (by omega) (nn_a8 _) (by decide), nm_r (e' := nI b) (by rw [nn_a8, nI_clamp (by omega)]; exact ebl) ⟨pk_in _ 96 (by omega) (nn_a9 _) (by decide), nm_r (e' := nI p) (by rw [nn_a9, nI_clamp (by omega)]; exact epc) ⟨vp_in_nI hb (by decide), ?_⟩⟩⟩
    rw [nI_clamp (n := b) (by omega), hlb]
    refine br_t (nI_lt (by omega) (by omega)) ?_
    unfold wpX_codeAt
    rw [nn_ct]
    refine ⟨vp_in_nI (by omega) (by decide), nm_r (e' := nI 4) (by rw [nI_clamp (by omega)]; exact eo) ⟨pk_in _ 512 (by omega) (nn_a1 _) (by decide), nm_r (e' := nI A) (by rw [nn_a1, nI_clamp (by omega)]; exact ea) ⟨pk_in _ 512 (by omega) (nn_a2 _) (by decide), nm_r (e' := nI B) (by rw [nn_a2, nI_clamp (by omega)]; exact eB) ⟨pk_in _ 512 (by omega) (nn_a3 _) (by decide), nm_r (e' := nI K) (by rw [nn_a3, nI_clamp (by omega)]; exact eK) ?_⟩⟩⟩⟩
    refine br_f (by decide) (br_f (by decide) (br_f (by decide) (br_f (by decide) (br_t (by decide) ?_))))
    unfold wpX_stepPut
    rw [nn_clA (a := G * 12) (b := A) (by omega), nn_clA (a := G * 12) (b := K) (by omega)]
    exact ⟨nn_inA (by omega) (by decide), nm_r e ⟨nn_inA (by omega) (by decide), nm_e (br_t rfl h)⟩⟩
  · unfold wpY_step
    refine nm_r (e' := nI (G * 12)) (by rw [nI_pred, nn_m12]) ⟨pk_in _ 96 (by omega) (nn_a8 _) (by decide), nm_r (e' := nI b) (by rw [nn_a8, nI_clamp (by omega)]; exact ebl) ⟨pk_in _ 96 (by omega) (nn_a9 _) (by decide), nm_r (e' := nI p) (by rw [nn_a9, nI_clamp (by omega)]; exact epc) ⟨vp_in_nI hb (by decide), ?_⟩⟩⟩
    rw [nI_clamp (n := b) (by omega), hlb]
    rw [nn_ct]
    refine br_f (nI_ge (by omega) (by omega)) ⟨vp_in_nI (by omega) (by decide), ?_⟩
    rw [nI_clamp (n := (b * 32 + p) * 4) (by omega), eo]
    refine br_f (by decide) (nm_e ⟨vp_in_nI (by omega) (by decide), nm_r (e' := nI 4) (by rw [nI_clamp (by omega)]; exact eo) ⟨pk_in _ 512 (by omega) (nn_a1 _) (by decide), nm_r (e' := nI A) (by rw [nn_a1, nI_clamp (by omega)]; exact ea) ⟨pk_in _ 512 (by omega) (nn_a2 _) (by decide), nm_r (e' := nI B) (by rw [nn_a2, nI_clamp (by omega)]; exact eB) ⟨pk_in _ 512 (by omega) (nn_a3 _) (by decide), nm_r (e' := nI K) (by rw [nn_a3, nI_clamp (by omega)]; exact eK) (nm_r (nn_a1 p) ?_)⟩⟩⟩⟩)
    refine br_f (by decide) (br_f (by decide) (br_f (by decide) (br_f (by decide) (br_f (by decide) (br_f (by decide) (br_f (by decide) (br_t (by decide) ?_)))))))
    rw [nn_clA (a := G * 12) (b := A) (by omega), nn_clA (a := G * 12) (b := K) (by omega)]
    exact ⟨nn_inA (by omega) (by decide), nm_r e ⟨nn_inA (by omega) (by decide), nm_e (br_f (by decide) h)⟩⟩
theorem st_4b (hD : D ≤ 8) (hH : H ≤ 32) (hM : nv_M O (G + 1) U H D he fr) (hb : b < 4) (ebl : fr (G * 12 + 8) = nI b) (epc : fr (G * 12 + 9) = nI p) (hlb : ln b = nI l) (hl2 : l ≤ 32) (hp : p < l) (ea : pg ((b * 32 + p) * 4 + 1) = nI A) (eB : pg ((b * 32 + p) * 4 + 2) = nI B) (eK : pg ((b * 32 + p) * 4 + 3) = nI K) (eo : pg ((b * 32 + p) * 4) = nI 4) (hA : A < 8) (hB : B < 4) (hK : K < 8) {q : Nat} (hq : q < O) (e : fr (G * 12 + A) = nI q) (e2 : fr (G * 12 + K) = -1) (e3 : fk B = 0) : nf_st G O U H D cc sel cs ec ep ms fk pn pi ln pg so ed he fr ou rc sn si sf tn ti tf := by
  have hF := hM.2.1
  have hO := hM.1
  refine ⟨24, O, G + 1, U, he, fr, ou, by omega, hM, fun post h => ?_, fun yec yep ych post h => ?_⟩
  · unfold wpX_step
    refine nm_r (e' := nI (G * 12)) (by rw [nI_pred, nn_m12]) ⟨pk_in _ 96 (by omega) (nn_a8 _) (by decide), nm_r (e' := nI b) (by rw [nn_a8, nI_clamp (by omega)]; exact ebl) ⟨pk_in _ 96 (by omega) (nn_a9 _) (by decide), nm_r (e' := nI p) (by rw [nn_a9, nI_clamp (by omega)]; exact epc) ⟨vp_in_nI hb (by decide), ?_⟩⟩⟩
    rw [nI_clamp (n := b) (by omega), hlb]
    refine br_t (nI_lt (by omega) (by omega)) ?_
    unfold wpX_codeAt
    rw [nn_ct]
    refine ⟨vp_in_nI (by omega) (by decide), nm_r (e' := nI 4) (by rw [nI_clamp (by omega)]; exact eo) ⟨pk_in _ 512 (by omega) (nn_a1 _) (by decide), nm_r (e' := nI A) (by rw [nn_a1, nI_clamp (by omega)]; exact ea) ⟨pk_in _ 512 (by omega) (nn_a2 _) (by decide), nm_r (e' := nI B) (by rw [nn_a2, nI_clamp (by omega)]; exact eB) ⟨pk_in _ 512 (by omega) (nn_a3 _) (by decide), nm_r (e' := nI K) (by rw [nn_a3, nI_clamp (by omega)]; exact eK) ?_⟩⟩⟩⟩
    refine br_f (by decide) (br_f (by decide) (br_f (by decide) (br_f (by decide) (br_t (by decide) ?_))))
    unfold wpX_stepPut
    rw [nn_clA (a := G * 12) (b := A) (by omega), nn_clA (a := G * 12) (b := K) (by omega)]
    refine ⟨nn_inA (by omega) (by decide), nm_r e ⟨nn_inA (by omega) (by decide), nm_r e2 (br_f (nc_m1 (by omega)) (br_t rfl ⟨vp_in_nI hB (by decide), ?_⟩))⟩⟩
    rw [nI_clamp (n := B) (by omega)]
    exact br_t e3 h
  · unfold wpY_step
    refine nm_r (e' := nI (G * 12)) (by rw [nI_pred, nn_m12]) ⟨pk_in _ 96 (by omega) (nn_a8 _) (by decide), nm_r (e' := nI b) (by rw [nn_a8, nI_clamp (by omega)]; exact ebl) ⟨pk_in _ 96 (by omega) (nn_a9 _) (by decide), nm_r (e' := nI p) (by rw [nn_a9, nI_clamp (by omega)]; exact epc) ⟨vp_in_nI hb (by decide), ?_⟩⟩⟩
    rw [nI_clamp (n := b) (by omega), hlb]
    rw [nn_ct]
    refine br_f (nI_ge (by omega) (by omega)) ⟨vp_in_nI (by omega) (by decide), ?_⟩
    rw [nI_clamp (n := (b * 32 + p) * 4) (by omega), eo]
    refine br_f (by decide) (nm_e ⟨vp_in_nI (by omega) (by decide), nm_r (e' := nI 4) (by rw [nI_clamp (by omega)]; exact eo) ⟨pk_in _ 512 (by omega) (nn_a1 _) (by decide), nm_r (e' := nI A) (by rw [nn_a1, nI_clamp (by omega)]; exact ea) ⟨pk_in _ 512 (by omega) (nn_a2 _) (by decide), nm_r (e' := nI B) (by rw [nn_a2, nI_clamp (by omega)]; exact eB) ⟨pk_in _ 512 (by omega) (nn_a3 _) (by decide), nm_r (e' := nI K) (by rw [nn_a3, nI_clamp (by omega)]; exact eK) (nm_r (nn_a1 p) ?_)⟩⟩⟩⟩)
    refine br_f (by decide) (br_f (by decide) (br_f (by decide) (br_f (by decide) (br_f (by decide) (br_f (by decide) (br_f (by decide) (br_t (by decide) ?_)))))))
    rw [nn_clA (a := G * 12) (b := A) (by omega), nn_clA (a := G * 12) (b := K) (by omega)]
    refine ⟨nn_inA (by omega) (by decide), nm_r e ⟨nn_inA (by omega) (by decide), nm_r e2 (br_t (nI_pos' (by omega)) (br_f (by decide) ⟨vp_in_nI hB (by decide), ?_⟩))⟩⟩
    rw [nI_clamp (n := B) (by omega)]
    exact br_t e3 h
theorem st_4c (hD : D ≤ 8) (hH : H ≤ 32) (hM : nv_M O (G + 1) U H D he fr) (hb : b < 4) (ebl : fr (G * 12 + 8) = nI b) (epc : fr (G * 12 + 9) = nI p) (hlb : ln b = nI l) (hl2 : l ≤ 32) (hp : p < l) (ea : pg ((b * 32 + p) * 4 + 1) = nI A) (eB : pg ((b * 32 + p) * 4 + 2) = nI B) (eK : pg ((b * 32 + p) * 4 + 3) = nI K) (eo : pg ((b * 32 + p) * 4) = nI 4) (hA : A < 8) (hB : B < 4) (hK : K < 8) {q : Nat} (hq : q < O) (e : fr (G * 12 + A) = nI q) (e2 : fr (G * 12 + K) = -1) (e3 : ¬ fk B = 0) (hv : nv_vl O (fr (G * 12 + K))) : nf_st G O U H D cc sel cs ec ep ms fk pn pi ln pg so ed he fr ou rc sn si sf tn ti tf := by
  have hF := hM.2.1
  have hO := hM.1
  have c4 : (nI (q * 4) + nI B).toNatClampNeg = q * 4 + B := nn_clA (by omega)
  have v4 : vp_in (nI (q * 4) + nI B) 128 := nn_inA (by omega) (by decide)
  refine ⟨ms, O, G + 1, U, upd he (q * 4 + B) (fr (G * 12 + K)), upd fr (G * 12 + 9) (nI (p + 1)), ou, by omega, (nv_Mh (nv_Mf hM (fun k hk z => nv_frP z (by omega))) hv), fun post h => ?_, fun yec yep ych post h => ?_⟩
  · unfold wpX_step
    refine nm_r (e' := nI (G * 12)) (by rw [nI_pred, nn_m12]) ⟨pk_in _ 96 (by omega) (nn_a8 _) (by decide), nm_r (e' := nI b) (by rw [nn_a8, nI_clamp (by omega)]; exact ebl) ⟨pk_in _ 96 (by omega) (nn_a9 _) (by decide), nm_r (e' := nI p) (by rw [nn_a9, nI_clamp (by omega)]; exact epc) ⟨vp_in_nI hb (by decide), ?_⟩⟩⟩
    rw [nI_clamp (n := b) (by omega), hlb]
    refine br_t (nI_lt (by omega) (by omega)) ?_
    unfold wpX_codeAt
    rw [nn_ct]
    refine ⟨vp_in_nI (by omega) (by decide), nm_r (e' := nI 4) (by rw [nI_clamp (by omega)]; exact eo) ⟨pk_in _ 512 (by omega) (nn_a1 _) (by decide), nm_r (e' := nI A) (by rw [nn_a1, nI_clamp (by omega)]; exact ea) ⟨pk_in _ 512 (by omega) (nn_a2 _) (by decide), nm_r (e' := nI B) (by rw [nn_a2, nI_clamp (by omega)]; exact eB) ⟨pk_in _ 512 (by omega) (nn_a3 _) (by decide), nm_r (e' := nI K) (by rw [nn_a3, nI_clamp (by omega)]; exact eK) ?_⟩⟩⟩⟩
    refine br_f (by decide) (br_f (by decide) (br_f (by decide) (br_f (by decide) (br_t (by decide) ?_))))
    unfold wpX_stepPut
    rw [nn_clA (a := G * 12) (b := A) (by omega), nn_clA (a := G * 12) (b := K) (by omega)]
    refine ⟨nn_inA (by omega) (by decide), nm_r e ⟨nn_inA (by omega) (by decide), nm_e (br_f (nc_m1 (by omega)) (br_t e2 ⟨vp_in_nI hB (by decide), ?_⟩))⟩⟩
    rw [nI_clamp (n := B) (by omega)]
    refine br_f e3 ?_
    unfold wX_stepPut_60
    rw [nn_m4, c4, nn_a9, nI_clamp (n := G * 12 + 9) (by omega)]
    refine ⟨v4, nm_e ⟨vp_in_nI (by omega) (by decide), vp_in_nI (by omega) (by decide), nm_r ?_ h⟩⟩
    rw [epc, nn_a1]
  · unfold wpY_step
    refine nm_r (e' := nI (G * 12)) (by rw [nI_pred, nn_m12]) ⟨pk_in _ 96 (by omega) (nn_a8 _) (by decide), nm_r (e' := nI b) (by rw [nn_a8, nI_clamp (by omega)]; exact ebl) ⟨pk_in _ 96 (by omega) (nn_a9 _) (by decide), nm_r (e' := nI p) (by rw [nn_a9, nI_clamp (by omega)]; exact epc) ⟨vp_in_nI hb (by decide), ?_⟩⟩⟩
    rw [nI_clamp (n := b) (by omega), hlb]
    rw [nn_ct]
    refine br_f (nI_ge (by omega) (by omega)) ⟨vp_in_nI (by omega) (by decide), ?_⟩
    rw [nI_clamp (n := (b * 32 + p) * 4) (by omega), eo]
    refine br_f (by decide) (nm_e ⟨vp_in_nI (by omega) (by decide), nm_r (e' := nI 4) (by rw [nI_clamp (by omega)]; exact eo) ⟨pk_in _ 512 (by omega) (nn_a1 _) (by decide), nm_r (e' := nI A) (by rw [nn_a1, nI_clamp (by omega)]; exact ea) ⟨pk_in _ 512 (by omega) (nn_a2 _) (by decide), nm_r (e' := nI B) (by rw [nn_a2, nI_clamp (by omega)]; exact eB) ⟨pk_in _ 512 (by omega) (nn_a3 _) (by decide), nm_r (e' := nI K) (by rw [nn_a3, nI_clamp (by omega)]; exact eK) (nm_r (nn_a1 p) ?_)⟩⟩⟩⟩)
    refine br_f (by decide) (br_f (by decide) (br_f (by decide) (br_f (by decide) (br_f (by decide) (br_f (by decide) (br_f (by decide) (br_t (by decide) ?_)))))))
    rw [nn_clA (a := G * 12) (b := A) (by omega), nn_clA (a := G * 12) (b := K) (by omega)]
    have Z : wY_step_482 post (nI (G * 12)) (nI B) (nI (p + 1)) (nI q) (fr (G * 12 + K)) cc (nI H) (nI D) sel yec yep cs ms (nI O) (nI U) (nI (G + 1)) ych fk pn pi ln pg rc sn si sf tn ti tf he ou fr := by
      unfold wY_step_482
      rw [nn_m4, c4]
      exact ⟨v4, nm_e (ym_743 (by omega) h)⟩
    refine ⟨nn_inA (by omega) (by decide), nm_r e ⟨nn_inA (by omega) (by decide), nm_e (br_t (nI_pos' (by omega)) (br_f (by rw [e2]; decide) ⟨vp_in_nI hB (by decide), ?_⟩))⟩⟩
    rw [nI_clamp (n := B) (by omega)]
    exact br_f e3 Z
theorem st_4d (hD : D ≤ 8) (hH : H ≤ 32) (hM : nv_M O (G + 1) U H D he fr) (hb : b < 4) (ebl : fr (G * 12 + 8) = nI b) (epc : fr (G * 12 + 9) = nI p) (hlb : ln b = nI l) (hl2 : l ≤ 32) (hp : p < l) (ea : pg ((b * 32 + p) * 4 + 1) = nI A) (eB : pg ((b * 32 + p) * 4 + 2) = nI B) (eK : pg ((b * 32 + p) * 4 + 3) = nI K) (eo : pg ((b * 32 + p) * 4) = nI 4) (hA : A < 8) (hB : B < 4) (hK : K < 8) {q r : Nat} (hq : q < O) (e : fr (G * 12 + A) = nI q) (hr : r < O) (e2 : fr (G * 12 + K) = nI r) (hv : nv_vl O (fr (G * 12 + K))) : nf_st G O U H D cc sel cs ec ep ms fk pn pi ln pg so ed he fr ou rc sn si sf tn ti tf := by
  have hF := hM.2.1
  have hO := hM.1
  have c4 : (nI (q * 4) + nI B).toNatClampNeg = q * 4 + B := nn_clA (by omega)
  have v4 : vp_in (nI (q * 4) + nI B) 128 := nn_inA (by omega) (by decide)
  refine ⟨ms, O, G + 1, U, upd he (q * 4 + B) (fr (G * 12 + K)), upd fr (G * 12 + 9) (nI (p + 1)), ou, by omega, (nv_Mh (nv_Mf hM (fun k hk z => nv_frP z (by omega))) hv), fun post h => ?_, fun yec yep ych post h => ?_⟩
  · unfold wpX_step
    refine nm_r (e' := nI (G * 12)) (by rw [nI_pred, nn_m12]) ⟨pk_in _ 96 (by omega) (nn_a8 _) (by decide), nm_r (e' := nI b) (by rw [nn_a8, nI_clamp (by omega)]; exact ebl) ⟨pk_in _ 96 (by omega) (nn_a9 _) (by decide), nm_r (e' := nI p) (by rw [nn_a9, nI_clamp (by omega)]; exact epc) ⟨vp_in_nI hb (by decide), ?_⟩⟩⟩
    rw [nI_clamp (n := b) (by omega), hlb]
    refine br_t (nI_lt (by omega) (by omega)) ?_
    unfold wpX_codeAt
    rw [nn_ct]
    refine ⟨vp_in_nI (by omega) (by decide), nm_r (e' := nI 4) (by rw [nI_clamp (by omega)]; exact eo) ⟨pk_in _ 512 (by omega) (nn_a1 _) (by decide), nm_r (e' := nI A) (by rw [nn_a1, nI_clamp (by omega)]; exact ea) ⟨pk_in _ 512 (by omega) (nn_a2 _) (by decide), nm_r (e' := nI B) (by rw [nn_a2, nI_clamp (by omega)]; exact eB) ⟨pk_in _ 512 (by omega) (nn_a3 _) (by decide), nm_r (e' := nI K) (by rw [nn_a3, nI_clamp (by omega)]; exact eK) ?_⟩⟩⟩⟩
    refine br_f (by decide) (br_f (by decide) (br_f (by decide) (br_f (by decide) (br_t (by decide) ?_))))
    unfold wpX_stepPut
    rw [nn_clA (a := G * 12) (b := A) (by omega), nn_clA (a := G * 12) (b := K) (by omega)]
    refine ⟨nn_inA (by omega) (by decide), nm_r e ⟨nn_inA (by omega) (by decide), nm_e (br_f (nc_m1 (by omega)) (br_f (by rw [e2]; exact nc_m1 (by omega)) ?_))⟩⟩
    unfold wX_stepPut_60
    rw [nn_m4, c4, nn_a9, nI_clamp (n := G * 12 + 9) (by omega)]
    refine ⟨v4, nm_e ⟨vp_in_nI (by omega) (by decide), vp_in_nI (by omega) (by decide), nm_r ?_ h⟩⟩
    rw [epc, nn_a1]
  · unfold wpY_step
    refine nm_r (e' := nI (G * 12)) (by rw [nI_pred, nn_m12]) ⟨pk_in _ 96 (by omega) (nn_a8 _) (by decide), nm_r (e' := nI b) (by rw [nn_a8, nI_clamp (by omega)]; exact ebl) ⟨pk_in _ 96 (by omega) (nn_a9 _) (by decide), nm_r (e' := nI p) (by rw [nn_a9, nI_clamp (by omega)]; exact epc) ⟨vp_in_nI hb (by decide), ?_⟩⟩⟩
    rw [nI_clamp (n := b) (by omega), hlb]
    rw [nn_ct]
    refine br_f (nI_ge (by omega) (by omega)) ⟨vp_in_nI (by omega) (by decide), ?_⟩
    rw [nI_clamp (n := (b * 32 + p) * 4) (by omega), eo]
    refine br_f (by decide) (nm_e ⟨vp_in_nI (by omega) (by decide), nm_r (e' := nI 4) (by rw [nI_clamp (by omega)]; exact eo) ⟨pk_in _ 512 (by omega) (nn_a1 _) (by decide), nm_r (e' := nI A) (by rw [nn_a1, nI_clamp (by omega)]; exact ea) ⟨pk_in _ 512 (by omega) (nn_a2 _) (by decide), nm_r (e' := nI B) (by rw [nn_a2, nI_clamp (by omega)]; exact eB) ⟨pk_in _ 512 (by omega) (nn_a3 _) (by decide), nm_r (e' := nI K) (by rw [nn_a3, nI_clamp (by omega)]; exact eK) (nm_r (nn_a1 p) ?_)⟩⟩⟩⟩)
    refine br_f (by decide) (br_f (by decide) (br_f (by decide) (br_f (by decide) (br_f (by decide) (br_f (by decide) (br_f (by decide) (br_t (by decide) ?_)))))))
    rw [nn_clA (a := G * 12) (b := A) (by omega), nn_clA (a := G * 12) (b := K) (by omega)]
    have Z : wY_step_482 post (nI (G * 12)) (nI B) (nI (p + 1)) (nI q) (fr (G * 12 + K)) cc (nI H) (nI D) sel yec yep cs ms (nI O) (nI U) (nI (G + 1)) ych fk pn pi ln pg rc sn si sf tn ti tf he ou fr := by
      unfold wY_step_482
      rw [nn_m4, c4]
      exact ⟨v4, nm_e (ym_743 (by omega) h)⟩
    exact ⟨nn_inA (by omega) (by decide), nm_r e ⟨nn_inA (by omega) (by decide), nm_e (br_t (nI_pos' (by omega)) (br_t (by rw [e2]; exact nI_pos' (by omega)) Z))⟩⟩
theorem st_2a (hD : D ≤ 8) (hH : H ≤ 32) (hM : nv_M O (G + 1) U H D he fr) (hb : b < 4) (ebl : fr (G * 12 + 8) = nI b) (epc : fr (G * 12 + 9) = nI p) (hlb : ln b = nI l) (hl2 : l ≤ 32) (hp : p < l) (ea : pg ((b * 32 + p) * 4 + 1) = nI A) (eB : pg ((b * 32 + p) * 4 + 2) = nI B) (eK : pg ((b * 32 + p) * 4 + 3) = nI K) (eo : pg ((b * 32 + p) * 4) = nI 2) (hA : A < 8) (hB : 1 ≤ B ∧ B < 4) (hK : K < 8) (hv : nv_vl O (fr (G * 12 + K))) (e : fr (G * 12 + K) = -1) (e2 : pn B = 0) : nf_st G O U H D cc sel cs ec ep ms fk pn pi ln pg so ed he fr ou rc sn si sf tn ti tf := by
  have hF := hM.2.1
  have hO := hM.1
  refine ⟨24, O, G + 1, U, he, fr, ou, by omega, hM, fun post h => ?_, fun yec yep ych post h => ?_⟩
  · unfold wpX_step
    refine nm_r (e' := nI (G * 12)) (by rw [nI_pred, nn_m12]) ⟨pk_in _ 96 (by omega) (nn_a8 _) (by decide), nm_r (e' := nI b) (by rw [nn_a8, nI_clamp (by omega)]; exact ebl) ⟨pk_in _ 96 (by omega) (nn_a9 _) (by decide), nm_r (e' := nI p) (by rw [nn_a9, nI_clamp (by omega)]; exact epc) ⟨vp_in_nI hb (by decide), ?_⟩⟩⟩
    rw [nI_clamp (n := b) (by omega), hlb]
    refine br_t (nI_lt (by omega) (by omega)) ?_
    unfold wpX_codeAt
    rw [nn_ct]
    refine ⟨vp_in_nI (by omega) (by decide), nm_r (e' := nI 2) (by rw [nI_clamp (by omega)]; exact eo) ⟨pk_in _ 512 (by omega) (nn_a1 _) (by decide), nm_r (e' := nI A) (by rw [nn_a1, nI_clamp (by omega)]; exact ea) ⟨pk_in _ 512 (by omega) (nn_a2 _) (by decide), nm_r (e' := nI B) (by rw [nn_a2, nI_clamp (by omega)]; exact eB) ⟨pk_in _ 512 (by omega) (nn_a3 _) (by decide), nm_r (e' := nI K) (by rw [nn_a3, nI_clamp (by omega)]; exact eK) ?_⟩⟩⟩⟩
    refine br_f (by decide) (br_f (by decide) (br_t (by decide) ?_))
    unfold wpX_stepNew
    rw [nn_clA (a := G * 12) (b := K) (by omega)]
    refine ⟨nn_inA (by omega) (by decide), nm_r e (br_t rfl ⟨vp_in_nI hB.2 (by decide), ?_⟩)⟩
    rw [nI_clamp (n := B) (by omega)]
    exact br_t e2 h
  · unfold wpY_step
    refine nm_r (e' := nI (G * 12)) (by rw [nI_pred, nn_m12]) ⟨pk_in _ 96 (by omega) (nn_a8 _) (by decide), nm_r (e' := nI b) (by rw [nn_a8, nI_clamp (by omega)]; exact ebl) ⟨pk_in _ 96 (by omega) (nn_a9 _) (by decide), nm_r (e' := nI p) (by rw [nn_a9, nI_clamp (by omega)]; exact epc) ⟨vp_in_nI hb (by decide), ?_⟩⟩⟩
    rw [nI_clamp (n := b) (by omega), hlb]
    rw [nn_ct]
    refine br_f (nI_ge (by omega) (by omega)) ⟨vp_in_nI (by omega) (by decide), ?_⟩
    rw [nI_clamp (n := (b * 32 + p) * 4) (by omega), eo]
    refine br_f (by decide) (nm_e ⟨vp_in_nI (by omega) (by decide), nm_r (e' := nI 2) (by rw [nI_clamp (by omega)]; exact eo) ⟨pk_in _ 512 (by omega) (nn_a1 _) (by decide), nm_r (e' := nI A) (by rw [nn_a1, nI_clamp (by omega)]; exact ea) ⟨pk_in _ 512 (by omega) (nn_a2 _) (by decide), nm_r (e' := nI B) (by rw [nn_a2, nI_clamp (by omega)]; exact eB) ⟨pk_in _ 512 (by omega) (nn_a3 _) (by decide), nm_r (e' := nI K) (by rw [nn_a3, nI_clamp (by omega)]; exact eK) (nm_r (nn_a1 p) ?_)⟩⟩⟩⟩)
    refine br_f (by decide) (br_f (by decide) (br_f (by decide) (br_f (by decide) (br_f (by decide) (br_f (by decide) (br_f (by decide) (br_f (by decide) (br_t (by decide) ?_))))))))
    rw [nn_clA (a := G * 12) (b := K) (by omega)]
    refine ⟨nn_inA (by omega) (by decide), nm_r e (br_f (by decide) ⟨vp_in_nI hB.2 (by decide), ?_⟩)⟩
    rw [nI_clamp (n := B) (by omega)]
    exact br_t e2 h
theorem st_2b (hD : D ≤ 8) (hH : H ≤ 32) (hM : nv_M O (G + 1) U H D he fr) (hb : b < 4) (ebl : fr (G * 12 + 8) = nI b) (epc : fr (G * 12 + 9) = nI p) (hlb : ln b = nI l) (hl2 : l ≤ 32) (hp : p < l) (ea : pg ((b * 32 + p) * 4 + 1) = nI A) (eB : pg ((b * 32 + p) * 4 + 2) = nI B) (eK : pg ((b * 32 + p) * 4 + 3) = nI K) (eo : pg ((b * 32 + p) * 4) = nI 2) (hA : A < 8) (hB : 1 ≤ B ∧ B < 4) (hK : K < 8) (hv : nv_vl O (fr (G * 12 + K))) (e : ¬ (fr (G * 12 + K) = -1 ∧ pn B = 0)) (e2 : G + 1 = D) : nf_st G O U H D cc sel cs ec ep ms fk pn pi ln pg so ed he fr ou rc sn si sf tn ti tf := by
  have hF := hM.2.1
  have hO := hM.1
  refine ⟨25, O, G + 1, U, he, fr, ou, by omega, hM, fun post h => ?_, fun yec yep ych post h => ?_⟩
  · unfold wpX_step
    refine nm_r (e' := nI (G * 12)) (by rw [nI_pred, nn_m12]) ⟨pk_in _ 96 (by omega) (nn_a8 _) (by decide), nm_r (e' := nI b) (by rw [nn_a8, nI_clamp (by omega)]; exact ebl) ⟨pk_in _ 96 (by omega) (nn_a9 _) (by decide), nm_r (e' := nI p) (by rw [nn_a9, nI_clamp (by omega)]; exact epc) ⟨vp_in_nI hb (by decide), ?_⟩⟩⟩
    rw [nI_clamp (n := b) (by omega), hlb]
    refine br_t (nI_lt (by omega) (by omega)) ?_
    unfold wpX_codeAt
    rw [nn_ct]
    refine ⟨vp_in_nI (by omega) (by decide), nm_r (e' := nI 2) (by rw [nI_clamp (by omega)]; exact eo) ⟨pk_in _ 512 (by omega) (nn_a1 _) (by decide), nm_r (e' := nI A) (by rw [nn_a1, nI_clamp (by omega)]; exact ea) ⟨pk_in _ 512 (by omega) (nn_a2 _) (by decide), nm_r (e' := nI B) (by rw [nn_a2, nI_clamp (by omega)]; exact eB) ⟨pk_in _ 512 (by omega) (nn_a3 _) (by decide), nm_r (e' := nI K) (by rw [nn_a3, nI_clamp (by omega)]; exact eK) ?_⟩⟩⟩⟩
    refine br_f (by decide) (br_f (by decide) (br_t (by decide) ?_))
    unfold wpX_stepNew
    rw [nn_clA (a := G * 12) (b := K) (by omega)]
    have Q : ∀ (P : SX → Prop), wX_stepNew_35 P (nI (G * 12)) (nI A) (nI B) (fr (G * 12 + K)) cc (nI H) (nI D) sel cs ec ep ms (nI O) (nI (G + 1)) (nI U) fk pn pi ln pg so ed he fr ou → (fun x5_2 => ((x5_2 = (-1) → (vp_in (nI B) 4 ∧ ((((pn (nI B).toNatClampNeg) = 0 → (P (cc, (nI H), (nI D), sel, cs, ec, ep, 24, (nI O), (nI (G + 1)), (nI U), fk, pn, pi, ln, pg, so, ed, he, fr, ou))) ∧ (¬ (pn (nI B).toNatClampNeg) = 0 → (wX_stepNew_35 P (nI (G * 12)) (nI A) (nI B) x5_2 cc (nI H) (nI D) sel cs ec ep ms (nI O) (nI (G + 1)) (nI U) fk pn pi ln pg so ed he fr ou)))))) ∧ (¬ x5_2 = (-1) → (wX_stepNew_35 P (nI (G * 12)) (nI A) (nI B) x5_2 cc (nI H) (nI D) sel cs ec ep ms (nI O) (nI (G + 1)) (nI U) fk pn pi ln pg so ed he fr ou)))) (fr (G * 12 + K)) := by
      intro P g
      refine br_c (fun z => ⟨vp_in_nI hB.2 (by decide), ?_⟩) (fun z => g)
      rw [nI_clamp (n := B) (by omega)]
      exact br_f (fun z2 => e ⟨z, z2⟩) g
    refine ⟨nn_inA (by omega) (by decide), nm_e (Q _ ?_)⟩
    unfold wX_stepNew_35
    exact br_t (congrArg nI e2) h
  · unfold wpY_step
    refine nm_r (e' := nI (G * 12)) (by rw [nI_pred, nn_m12]) ⟨pk_in _ 96 (by omega) (nn_a8 _) (by decide), nm_r (e' := nI b) (by rw [nn_a8, nI_clamp (by omega)]; exact ebl) ⟨pk_in _ 96 (by omega) (nn_a9 _) (by decide), nm_r (e' := nI p) (by rw [nn_a9, nI_clamp (by omega)]; exact epc) ⟨vp_in_nI hb (by decide), ?_⟩⟩⟩
    rw [nI_clamp (n := b) (by omega), hlb]
    rw [nn_ct]
    refine br_f (nI_ge (by omega) (by omega)) ⟨vp_in_nI (by omega) (by decide), ?_⟩
    rw [nI_clamp (n := (b * 32 + p) * 4) (by omega), eo]
    refine br_f (by decide) (nm_e ⟨vp_in_nI (by omega) (by decide), nm_r (e' := nI 2) (by rw [nI_clamp (by omega)]; exact eo) ⟨pk_in _ 512 (by omega) (nn_a1 _) (by decide), nm_r (e' := nI A) (by rw [nn_a1, nI_clamp (by omega)]; exact ea) ⟨pk_in _ 512 (by omega) (nn_a2 _) (by decide), nm_r (e' := nI B) (by rw [nn_a2, nI_clamp (by omega)]; exact eB) ⟨pk_in _ 512 (by omega) (nn_a3 _) (by decide), nm_r (e' := nI K) (by rw [nn_a3, nI_clamp (by omega)]; exact eK) (nm_r (nn_a1 p) ?_)⟩⟩⟩⟩)
    refine br_f (by decide) (br_f (by decide) (br_f (by decide) (br_f (by decide) (br_f (by decide) (br_f (by decide) (br_f (by decide) (br_f (by decide) (br_t (by decide) ?_))))))))
    rw [nn_clA (a := G * 12) (b := K) (by omega)]
    have Q : wY_step_538 post (nI (G * 12)) (nI A) (nI B) (nI (p + 1)) (fr (G * 12 + K)) cc (nI H) (nI D) sel yec yep cs ms (nI O) (nI U) (nI (G + 1)) ych fk pn pi ln pg rc sn si sf tn ti tf he ou fr → ((0 ≤ fr (G * 12 + K) → wY_step_538 post (nI (G * 12)) (nI A) (nI B) (nI (p + 1)) (fr (G * 12 + K)) cc (nI H) (nI D) sel yec yep cs ms (nI O) (nI U) (nI (G + 1)) ych fk pn pi ln pg rc sn si sf tn ti tf he ou fr) ∧ (¬ 0 ≤ fr (G * 12 + K) → (vp_in (nI B) 4 ∧ ((pn (nI B).toNatClampNeg = 0 → post (cc, (nI H), (nI D), sel, yec, yep, cs, 24, (nI O), (nI U), (nI (G + 1)), ych, fk, pn, pi, ln, pg, rc, sn, si, sf, tn, ti, tf, he, ou, fr)) ∧ (¬ pn (nI B).toNatClampNeg = 0 → wY_step_538 post (nI (G * 12)) (nI A) (nI B) (nI (p + 1)) (fr (G * 12 + K)) cc (nI H) (nI D) sel yec yep cs ms (nI O) (nI U) (nI (G + 1)) ych fk pn pi ln pg rc sn si sf tn ti tf he ou fr))))) := by
      intro g
      refine br_c (fun z => g) (fun z => ⟨vp_in_nI hB.2 (by decide), ?_⟩)
      rw [nI_clamp (n := B) (by omega)]
      exact br_f (fun z2 => e ⟨(nv_lt (by omega) hv).mp (Int32.not_le.mp z), z2⟩) g
    refine ⟨nn_inA (by omega) (by decide), nm_e (Q ?_)⟩
    unfold wY_step_538
    exact br_t (congrArg nI e2) h
theorem st_2c (hD : D ≤ 8) (hH : H ≤ 32) (hM : nv_M O (G + 1) U H D he fr) (hb : b < 4) (ebl : fr (G * 12 + 8) = nI b) (epc : fr (G * 12 + 9) = nI p) (hlb : ln b = nI l) (hl2 : l ≤ 32) (hp : p < l) (ea : pg ((b * 32 + p) * 4 + 1) = nI A) (eB : pg ((b * 32 + p) * 4 + 2) = nI B) (eK : pg ((b * 32 + p) * 4 + 3) = nI K) (eo : pg ((b * 32 + p) * 4) = nI 2) (hA : A < 8) (hB : 1 ≤ B ∧ B < 4) (hK : K < 8) (hv : nv_vl O (fr (G * 12 + K))) (e : ¬ (fr (G * 12 + K) = -1 ∧ pn B = 0)) (e2 : G + 1 ≠ D) (e3 : O = H) : nf_st G O U H D cc sel cs ec ep ms fk pn pi ln pg so ed he fr ou rc sn si sf tn ti tf := by
  have hF := hM.2.1
  have hO := hM.1
  refine ⟨26, O, G + 1, U, he, fr, ou, by omega, hM, fun post h => ?_, fun yec yep ych post h => ?_⟩
  · unfold wpX_step
    refine nm_r (e' := nI (G * 12)) (by rw [nI_pred, nn_m12]) ⟨pk_in _ 96 (by omega) (nn_a8 _) (by decide), nm_r (e' := nI b) (by rw [nn_a8, nI_clamp (by omega)]; exact ebl) ⟨pk_in _ 96 (by omega) (nn_a9 _) (by decide), nm_r (e' := nI p) (by rw [nn_a9, nI_clamp (by omega)]; exact epc) ⟨vp_in_nI hb (by decide), ?_⟩⟩⟩
    rw [nI_clamp (n := b) (by omega), hlb]
    refine br_t (nI_lt (by omega) (by omega)) ?_
    unfold wpX_codeAt
    rw [nn_ct]
    refine ⟨vp_in_nI (by omega) (by decide), nm_r (e' := nI 2) (by rw [nI_clamp (by omega)]; exact eo) ⟨pk_in _ 512 (by omega) (nn_a1 _) (by decide), nm_r (e' := nI A) (by rw [nn_a1, nI_clamp (by omega)]; exact ea) ⟨pk_in _ 512 (by omega) (nn_a2 _) (by decide), nm_r (e' := nI B) (by rw [nn_a2, nI_clamp (by omega)]; exact eB) ⟨pk_in _ 512 (by omega) (nn_a3 _) (by decide), nm_r (e' := nI K) (by rw [nn_a3, nI_clamp (by omega)]; exact eK) ?_⟩⟩⟩⟩
    refine br_f (by decide) (br_f (by decide) (br_t (by decide) ?_))
    unfold wpX_stepNew
    rw [nn_clA (a := G * 12) (b := K) (by omega)]
    have Q : ∀ (P : SX → Prop), wX_stepNew_35 P (nI (G * 12)) (nI A) (nI B) (fr (G * 12 + K)) cc (nI H) (nI D) sel cs ec ep ms (nI O) (nI (G + 1)) (nI U) fk pn pi ln pg so ed he fr ou → (fun x5_2 => ((x5_2 = (-1) → (vp_in (nI B) 4 ∧ ((((pn (nI B).toNatClampNeg) = 0 → (P (cc, (nI H), (nI D), sel, cs, ec, ep, 24, (nI O), (nI (G + 1)), (nI U), fk, pn, pi, ln, pg, so, ed, he, fr, ou))) ∧ (¬ (pn (nI B).toNatClampNeg) = 0 → (wX_stepNew_35 P (nI (G * 12)) (nI A) (nI B) x5_2 cc (nI H) (nI D) sel cs ec ep ms (nI O) (nI (G + 1)) (nI U) fk pn pi ln pg so ed he fr ou)))))) ∧ (¬ x5_2 = (-1) → (wX_stepNew_35 P (nI (G * 12)) (nI A) (nI B) x5_2 cc (nI H) (nI D) sel cs ec ep ms (nI O) (nI (G + 1)) (nI U) fk pn pi ln pg so ed he fr ou)))) (fr (G * 12 + K)) := by
      intro P g
      refine br_c (fun z => ⟨vp_in_nI hB.2 (by decide), ?_⟩) (fun z => g)
      rw [nI_clamp (n := B) (by omega)]
      exact br_f (fun z2 => e ⟨z, z2⟩) g
    refine ⟨nn_inA (by omega) (by decide), nm_e (Q _ ?_)⟩
    unfold wX_stepNew_35
    exact br_f (fun z => e2 ((nI_eq (by omega) (by omega)).mp z)) (br_t (congrArg nI e3) h)
  · unfold wpY_step
    refine nm_r (e' := nI (G * 12)) (by rw [nI_pred, nn_m12]) ⟨pk_in _ 96 (by omega) (nn_a8 _) (by decide), nm_r (e' := nI b) (by rw [nn_a8, nI_clamp (by omega)]; exact ebl) ⟨pk_in _ 96 (by omega) (nn_a9 _) (by decide), nm_r (e' := nI p) (by rw [nn_a9, nI_clamp (by omega)]; exact epc) ⟨vp_in_nI hb (by decide), ?_⟩⟩⟩
    rw [nI_clamp (n := b) (by omega), hlb]
    rw [nn_ct]
    refine br_f (nI_ge (by omega) (by omega)) ⟨vp_in_nI (by omega) (by decide), ?_⟩
    rw [nI_clamp (n := (b * 32 + p) * 4) (by omega), eo]
    refine br_f (by decide) (nm_e ⟨vp_in_nI (by omega) (by decide), nm_r (e' := nI 2) (by rw [nI_clamp (by omega)]; exact eo) ⟨pk_in _ 512 (by omega) (nn_a1 _) (by decide), nm_r (e' := nI A) (by rw [nn_a1, nI_clamp (by omega)]; exact ea) ⟨pk_in _ 512 (by omega) (nn_a2 _) (by decide), nm_r (e' := nI B) (by rw [nn_a2, nI_clamp (by omega)]; exact eB) ⟨pk_in _ 512 (by omega) (nn_a3 _) (by decide), nm_r (e' := nI K) (by rw [nn_a3, nI_clamp (by omega)]; exact eK) (nm_r (nn_a1 p) ?_)⟩⟩⟩⟩)
    refine br_f (by decide) (br_f (by decide) (br_f (by decide) (br_f (by decide) (br_f (by decide) (br_f (by decide) (br_f (by decide) (br_f (by decide) (br_t (by decide) ?_))))))))
    rw [nn_clA (a := G * 12) (b := K) (by omega)]
    have Q : wY_step_538 post (nI (G * 12)) (nI A) (nI B) (nI (p + 1)) (fr (G * 12 + K)) cc (nI H) (nI D) sel yec yep cs ms (nI O) (nI U) (nI (G + 1)) ych fk pn pi ln pg rc sn si sf tn ti tf he ou fr → ((0 ≤ fr (G * 12 + K) → wY_step_538 post (nI (G * 12)) (nI A) (nI B) (nI (p + 1)) (fr (G * 12 + K)) cc (nI H) (nI D) sel yec yep cs ms (nI O) (nI U) (nI (G + 1)) ych fk pn pi ln pg rc sn si sf tn ti tf he ou fr) ∧ (¬ 0 ≤ fr (G * 12 + K) → (vp_in (nI B) 4 ∧ ((pn (nI B).toNatClampNeg = 0 → post (cc, (nI H), (nI D), sel, yec, yep, cs, 24, (nI O), (nI U), (nI (G + 1)), ych, fk, pn, pi, ln, pg, rc, sn, si, sf, tn, ti, tf, he, ou, fr)) ∧ (¬ pn (nI B).toNatClampNeg = 0 → wY_step_538 post (nI (G * 12)) (nI A) (nI B) (nI (p + 1)) (fr (G * 12 + K)) cc (nI H) (nI D) sel yec yep cs ms (nI O) (nI U) (nI (G + 1)) ych fk pn pi ln pg rc sn si sf tn ti tf he ou fr))))) := by
      intro g
      refine br_c (fun z => g) (fun z => ⟨vp_in_nI hB.2 (by decide), ?_⟩)
      rw [nI_clamp (n := B) (by omega)]
      exact br_f (fun z2 => e ⟨(nv_lt (by omega) hv).mp (Int32.not_le.mp z), z2⟩) g
    refine ⟨nn_inA (by omega) (by decide), nm_e (Q ?_)⟩
    unfold wY_step_538
    exact br_f (fun z => e2 ((nI_eq (by omega) (by omega)).mp z)) (br_t (congrArg nI e3) h)
theorem st_2d (hD : D ≤ 8) (hH : H ≤ 32) (hM : nv_M O (G + 1) U H D he fr) (hb : b < 4) (ebl : fr (G * 12 + 8) = nI b) (epc : fr (G * 12 + 9) = nI p) (hlb : ln b = nI l) (hl2 : l ≤ 32) (hp : p < l) (ea : pg ((b * 32 + p) * 4 + 1) = nI A) (eB : pg ((b * 32 + p) * 4 + 2) = nI B) (eK : pg ((b * 32 + p) * 4 + 3) = nI K) (eo : pg ((b * 32 + p) * 4) = nI 2) (hA : A < 8) (hB : 1 ≤ B ∧ B < 4) (hK : K < 8) (hv : nv_vl O (fr (G * 12 + K))) (e : ¬ (fr (G * 12 + K) = -1 ∧ pn B = 0)) (e2 : G + 1 ≠ D) (e3 : O ≠ H) : nf_st G O U H D cc sel cs ec ep ms fk pn pi ln pg so ed he fr ou rc sn si sf tn ti tf := by
  have hF := hM.2.1
  have hO := hM.1
  refine ⟨ms, O + 1, G + 1 + 1, U, na_fi he (O * 4) 4 (-1), nw_push (upd fr (G * 12 + 9) (nI (p + 1))) (G + 1) (nI B) (fr (G * 12 + K)) (nI A) (nI O), ou, by omega, (nv_Mnew (nv_Mf hM (fun k hk z => nv_frP z (by omega))) (by omega) (by omega) hB.2 hA hv), fun post h => ?_, fun yec yep ych post h => ?_⟩
  · unfold wpX_step
    refine nm_r (e' := nI (G * 12)) (by rw [nI_pred, nn_m12]) ⟨pk_in _ 96 (by omega) (nn_a8 _) (by decide), nm_r (e' := nI b) (by rw [nn_a8, nI_clamp (by omega)]; exact ebl) ⟨pk_in _ 96 (by omega) (nn_a9 _) (by decide), nm_r (e' := nI p) (by rw [nn_a9, nI_clamp (by omega)]; exact epc) ⟨vp_in_nI hb (by decide), ?_⟩⟩⟩
    rw [nI_clamp (n := b) (by omega), hlb]
    refine br_t (nI_lt (by omega) (by omega)) ?_
    unfold wpX_codeAt
    rw [nn_ct]
    refine ⟨vp_in_nI (by omega) (by decide), nm_r (e' := nI 2) (by rw [nI_clamp (by omega)]; exact eo) ⟨pk_in _ 512 (by omega) (nn_a1 _) (by decide), nm_r (e' := nI A) (by rw [nn_a1, nI_clamp (by omega)]; exact ea) ⟨pk_in _ 512 (by omega) (nn_a2 _) (by decide), nm_r (e' := nI B) (by rw [nn_a2, nI_clamp (by omega)]; exact eB) ⟨pk_in _ 512 (by omega) (nn_a3 _) (by decide), nm_r (e' := nI K) (by rw [nn_a3, nI_clamp (by omega)]; exact eK) ?_⟩⟩⟩⟩
    refine br_f (by decide) (br_f (by decide) (br_t (by decide) ?_))
    unfold wpX_stepNew
    rw [nn_clA (a := G * 12) (b := K) (by omega)]
    have Q : ∀ (P : SX → Prop), wX_stepNew_35 P (nI (G * 12)) (nI A) (nI B) (fr (G * 12 + K)) cc (nI H) (nI D) sel cs ec ep ms (nI O) (nI (G + 1)) (nI U) fk pn pi ln pg so ed he fr ou → (fun x5_2 => ((x5_2 = (-1) → (vp_in (nI B) 4 ∧ ((((pn (nI B).toNatClampNeg) = 0 → (P (cc, (nI H), (nI D), sel, cs, ec, ep, 24, (nI O), (nI (G + 1)), (nI U), fk, pn, pi, ln, pg, so, ed, he, fr, ou))) ∧ (¬ (pn (nI B).toNatClampNeg) = 0 → (wX_stepNew_35 P (nI (G * 12)) (nI A) (nI B) x5_2 cc (nI H) (nI D) sel cs ec ep ms (nI O) (nI (G + 1)) (nI U) fk pn pi ln pg so ed he fr ou)))))) ∧ (¬ x5_2 = (-1) → (wX_stepNew_35 P (nI (G * 12)) (nI A) (nI B) x5_2 cc (nI H) (nI D) sel cs ec ep ms (nI O) (nI (G + 1)) (nI U) fk pn pi ln pg so ed he fr ou)))) (fr (G * 12 + K)) := by
      intro P g
      refine br_c (fun z => ⟨vp_in_nI hB.2 (by decide), ?_⟩) (fun z => g)
      rw [nI_clamp (n := B) (by omega)]
      exact br_f (fun z2 => e ⟨z, z2⟩) g
    refine ⟨nn_inA (by omega) (by decide), nm_e (Q _ ?_)⟩
    unfold wX_stepNew_35
    refine br_f (fun z => e2 ((nI_eq (by omega) (by omega)).mp z)) (br_f (fun z => e3 ((nI_eq (by omega) (by omega)).mp z)) (xm_make (by omega) ?_))
    refine ⟨pk_in _ 96 (by omega) (nn_a9 _) (by decide), pk_in _ 96 (by omega) (nn_a9 _) (by decide), nm_r (e' := upd fr (G * 12 + 9) (nI (p + 1))) ?_ (xm_push (by omega) h)⟩
    rw [nn_a9, nI_clamp (by omega), epc, nn_a1]
  · unfold wpY_step
    refine nm_r (e' := nI (G * 12)) (by rw [nI_pred, nn_m12]) ⟨pk_in _ 96 (by omega) (nn_a8 _) (by decide), nm_r (e' := nI b) (by rw [nn_a8, nI_clamp (by omega)]; exact ebl) ⟨pk_in _ 96 (by omega) (nn_a9 _) (by decide), nm_r (e' := nI p) (by rw [nn_a9, nI_clamp (by omega)]; exact epc) ⟨vp_in_nI hb (by decide), ?_⟩⟩⟩
    rw [nI_clamp (n := b) (by omega), hlb]
    rw [nn_ct]
    refine br_f (nI_ge (by omega) (by omega)) ⟨vp_in_nI (by omega) (by decide), ?_⟩
    rw [nI_clamp (n := (b * 32 + p) * 4) (by omega), eo]
    refine br_f (by decide) (nm_e ⟨vp_in_nI (by omega) (by decide), nm_r (e' := nI 2) (by rw [nI_clamp (by omega)]; exact eo) ⟨pk_in _ 512 (by omega) (nn_a1 _) (by decide), nm_r (e' := nI A) (by rw [nn_a1, nI_clamp (by omega)]; exact ea) ⟨pk_in _ 512 (by omega) (nn_a2 _) (by decide), nm_r (e' := nI B) (by rw [nn_a2, nI_clamp (by omega)]; exact eB) ⟨pk_in _ 512 (by omega) (nn_a3 _) (by decide), nm_r (e' := nI K) (by rw [nn_a3, nI_clamp (by omega)]; exact eK) (nm_r (nn_a1 p) ?_)⟩⟩⟩⟩)
    refine br_f (by decide) (br_f (by decide) (br_f (by decide) (br_f (by decide) (br_f (by decide) (br_f (by decide) (br_f (by decide) (br_f (by decide) (br_t (by decide) ?_))))))))
    rw [nn_clA (a := G * 12) (b := K) (by omega)]
    have Q : wY_step_538 post (nI (G * 12)) (nI A) (nI B) (nI (p + 1)) (fr (G * 12 + K)) cc (nI H) (nI D) sel yec yep cs ms (nI O) (nI U) (nI (G + 1)) ych fk pn pi ln pg rc sn si sf tn ti tf he ou fr → ((0 ≤ fr (G * 12 + K) → wY_step_538 post (nI (G * 12)) (nI A) (nI B) (nI (p + 1)) (fr (G * 12 + K)) cc (nI H) (nI D) sel yec yep cs ms (nI O) (nI U) (nI (G + 1)) ych fk pn pi ln pg rc sn si sf tn ti tf he ou fr) ∧ (¬ 0 ≤ fr (G * 12 + K) → (vp_in (nI B) 4 ∧ ((pn (nI B).toNatClampNeg = 0 → post (cc, (nI H), (nI D), sel, yec, yep, cs, 24, (nI O), (nI U), (nI (G + 1)), ych, fk, pn, pi, ln, pg, rc, sn, si, sf, tn, ti, tf, he, ou, fr)) ∧ (¬ pn (nI B).toNatClampNeg = 0 → wY_step_538 post (nI (G * 12)) (nI A) (nI B) (nI (p + 1)) (fr (G * 12 + K)) cc (nI H) (nI D) sel yec yep cs ms (nI O) (nI U) (nI (G + 1)) ych fk pn pi ln pg rc sn si sf tn ti tf he ou fr))))) := by
      intro g
      refine br_c (fun z => g) (fun z => ⟨vp_in_nI hB.2 (by decide), ?_⟩)
      rw [nI_clamp (n := B) (by omega)]
      exact br_f (fun z2 => e ⟨(nv_lt (by omega) hv).mp (Int32.not_le.mp z), z2⟩) g
    refine ⟨nn_inA (by omega) (by decide), nm_e (Q ?_)⟩
    unfold wY_step_538
    exact br_f (fun z => e2 ((nI_eq (by omega) (by omega)).mp z)) (br_f (fun z => e3 ((nI_eq (by omega) (by omega)).mp z)) (nm_r (nn_a1 O) (ym_593 (by omega) (by omega) h)))
theorem st_ret (hD : D ≤ 8) (hM : nv_M O (G + 1) U H D he fr) : ∃ (ms' : Int32) (F' : Nat) (fr' : Nat → Int32), 1 ≤ F' ∧ nv_M O F' U H D he fr' ∧ (∀ post : SX → Prop, post (cc, (nI H), (nI D), sel, cs, ec, ep, ms', (nI O), (nI F'), (nI U), fk, pn, pi, ln, pg, so, ed, he, fr', ou) → wpX_stepReturn post (cc, (nI H), (nI D), sel, cs, ec, ep, ms, (nI O), (nI (G + 1)), (nI U), fk, pn, pi, ln, pg, so, ed, he, fr, ou) (nI (G * 12))) ∧ (∀ (yec yep ych : Int32) (post : SY → Prop), post (cc, (nI H), (nI D), sel, yec, yep, cs, ms', (nI O), (nI U), (nI F'), ych, fk, pn, pi, ln, pg, rc, sn, si, sf, tn, ti, tf, he, ou, fr') → wY_step_58 post (nI (G * 12)) cc (nI H) (nI D) sel yec yep cs ms (nI O) (nI U) (nI (G + 1)) ych fk pn pi ln pg rc sn si sf tn ti tf he ou fr) := by
  have hF := hM.2.1
  cases G with
  | zero =>
    refine ⟨22, 0 + 1, fr, by omega, hM, fun post h => ?_, fun yec yep ych post h => ?_⟩
    · unfold wpX_stepReturn
      exact br_t rfl h
    · unfold wY_step_58
      exact br_t rfl h
  | succ g =>
    obtain ⟨_, _, _, hk⟩ := hM.2.2.2.2 (g + 1) (by omega)
    obtain ⟨⟨d, hd, ed1⟩, q, hq, eq1⟩ := hk (by omega)
    have n1 : ¬ nI (g + 1 + 1) = 1 := fun z => by
      have := (nl_eq1 (by omega)).mp z
      omega
    refine ⟨ms, g + 1, upd fr (g * 12 + d) (nI q), by omega, nv_Mf (nv_Mpop hM) (fun k hk z => nv_frL z hd (Or.inr ⟨q, hq, rfl⟩)), fun post h => ?_, fun yec yep ych post h => ?_⟩
    · unfold wpX_stepReturn
      refine br_f n1 (nm_r (nn_s12 g) ?_)
      rw [nn_a10, nn_a11, nI_clamp (n := (g + 1) * 12 + 10) (by omega), nI_clamp (n := (g + 1) * 12 + 11) (by omega), ed1, eq1, nn_clA (by omega), nI_pred]
      exact ⟨vp_in_nI (by omega) (by decide), vp_in_nI (by omega) (by decide), nn_inA (by omega) (by decide), nm_e (nm_e h)⟩
    · unfold wY_step_58
      refine br_f n1 ?_
      rw [nn_a10, nn_a11, nI_clamp (n := (g + 1) * 12 + 10) (by omega), nI_clamp (n := (g + 1) * 12 + 11) (by omega), ed1, eq1]
      refine ⟨vp_in_nI (by omega) (by decide), nm_e ⟨vp_in_nI (by omega) (by decide), nm_e (nm_r (nI_pred (g + 1)) ?_)⟩⟩
      rw [nI_pred, nn_m12, nn_clA (by omega)]
      exact ⟨nn_inA (by omega) (by decide), nm_e h⟩
theorem st_end (hD : D ≤ 8) (hM : nv_M O (G + 1) U H D he fr) (hb : b < 4) (ebl : fr (G * 12 + 8) = nI b) (epc : fr (G * 12 + 9) = nI p) (hp : p < 33) (hlb : ln b = nI l) (hl2 : l ≤ 32) (hpl : l ≤ p) : nf_st G O U H D cc sel cs ec ep ms fk pn pi ln pg so ed he fr ou rc sn si sf tn ti tf := by
  have hF := hM.2.1
  obtain ⟨ms', F', fr', h1, h2, hX, hY⟩ := st_ret (cc := cc) (sel := sel) (cs := cs) (ec := ec) (ep := ep) (ms := ms) (fk := fk) (pn := pn) (pi := pi) (ln := ln) (pg := pg) (so := so) (ed := ed) (ou := ou) (rc := rc) (sn := sn) (si := si) (sf := sf) (tn := tn) (ti := ti) (tf := tf) hD hM
  refine ⟨ms', O, F', U, he, fr', ou, h1, h2, fun post h => ?_, fun yec yep ych post h => ?_⟩
  · unfold wpX_step
    refine nm_r (e' := nI (G * 12)) (by rw [nI_pred, nn_m12]) ⟨pk_in _ 96 (by omega) (nn_a8 _) (by decide), nm_r (e' := nI b) (by rw [nn_a8, nI_clamp (by omega)]; exact ebl) ⟨pk_in _ 96 (by omega) (nn_a9 _) (by decide), nm_r (e' := nI p) (by rw [nn_a9, nI_clamp (by omega)]; exact epc) ⟨vp_in_nI hb (by decide), ?_⟩⟩⟩
    rw [nI_clamp (n := b) (by omega), hlb]
    exact br_f (nI_nlt (by omega) (by omega)) (hX _ h)
  · unfold wpY_step
    refine nm_r (e' := nI (G * 12)) (by rw [nI_pred, nn_m12]) ⟨pk_in _ 96 (by omega) (nn_a8 _) (by decide), nm_r (e' := nI b) (by rw [nn_a8, nI_clamp (by omega)]; exact ebl) ⟨pk_in _ 96 (by omega) (nn_a9 _) (by decide), nm_r (e' := nI p) (by rw [nn_a9, nI_clamp (by omega)]; exact epc) ⟨vp_in_nI hb (by decide), ?_⟩⟩⟩
    rw [nI_clamp (n := b) (by omega), hlb]
    exact br_t (nI_le (by omega) (by omega)) (hY yec yep ych _ h)
theorem st_8 (hD : D ≤ 8) (hH : H ≤ 32) (hM : nv_M O (G + 1) U H D he fr) (hb : b < 4) (ebl : fr (G * 12 + 8) = nI b) (epc : fr (G * 12 + 9) = nI p) (hlb : ln b = nI l) (hl2 : l ≤ 32) (hp : p < l) (ea : pg ((b * 32 + p) * 4 + 1) = nI A) (eB : pg ((b * 32 + p) * 4 + 2) = nI B) (eK : pg ((b * 32 + p) * 4 + 3) = nI K) (eo : pg ((b * 32 + p) * 4) = nI 8) : nf_st G O U H D cc sel cs ec ep ms fk pn pi ln pg so ed he fr ou rc sn si sf tn ti tf := by
  have hF := hM.2.1
  obtain ⟨ms', F', fr', h1, h2, hX, hY⟩ := st_ret (cc := cc) (sel := sel) (cs := cs) (ec := ec) (ep := ep) (ms := ms) (fk := fk) (pn := pn) (pi := pi) (ln := ln) (pg := pg) (so := so) (ed := ed) (ou := ou) (rc := rc) (sn := sn) (si := si) (sf := sf) (tn := tn) (ti := ti) (tf := tf) hD hM
  refine ⟨ms', O, F', U, he, fr', ou, h1, h2, fun post h => ?_, fun yec yep ych post h => ?_⟩
  · unfold wpX_step
    refine nm_r (e' := nI (G * 12)) (by rw [nI_pred, nn_m12]) ⟨pk_in _ 96 (by omega) (nn_a8 _) (by decide), nm_r (e' := nI b) (by rw [nn_a8, nI_clamp (by omega)]; exact ebl) ⟨pk_in _ 96 (by omega) (nn_a9 _) (by decide), nm_r (e' := nI p) (by rw [nn_a9, nI_clamp (by omega)]; exact epc) ⟨vp_in_nI hb (by decide), ?_⟩⟩⟩
    rw [nI_clamp (n := b) (by omega), hlb]
    refine br_t (nI_lt (by omega) (by omega)) ?_
    unfold wpX_codeAt
    rw [nn_ct]
    refine ⟨vp_in_nI (by omega) (by decide), nm_r (e' := nI 8) (by rw [nI_clamp (by omega)]; exact eo) ⟨pk_in _ 512 (by omega) (nn_a1 _) (by decide), nm_r (e' := nI A) (by rw [nn_a1, nI_clamp (by omega)]; exact ea) ⟨pk_in _ 512 (by omega) (nn_a2 _) (by decide), nm_r (e' := nI B) (by rw [nn_a2, nI_clamp (by omega)]; exact eB) ⟨pk_in _ 512 (by omega) (nn_a3 _) (by decide), nm_r (e' := nI K) (by rw [nn_a3, nI_clamp (by omega)]; exact eK) ?_⟩⟩⟩⟩
    exact br_f (by decide) (br_f (by decide) (br_f (by decide) (br_f (by decide) (br_f (by decide) (br_f (by decide) (br_f (by decide) (br_f (by decide) (br_t (by decide) (hX _ h)))))))))
  · unfold wpY_step
    refine nm_r (e' := nI (G * 12)) (by rw [nI_pred, nn_m12]) ⟨pk_in _ 96 (by omega) (nn_a8 _) (by decide), nm_r (e' := nI b) (by rw [nn_a8, nI_clamp (by omega)]; exact ebl) ⟨pk_in _ 96 (by omega) (nn_a9 _) (by decide), nm_r (e' := nI p) (by rw [nn_a9, nI_clamp (by omega)]; exact epc) ⟨vp_in_nI hb (by decide), ?_⟩⟩⟩
    rw [nI_clamp (n := b) (by omega), hlb]
    rw [nn_ct]
    refine br_f (nI_ge (by omega) (by omega)) ⟨vp_in_nI (by omega) (by decide), ?_⟩
    rw [nI_clamp (n := (b * 32 + p) * 4) (by omega), eo]
    exact br_t (by decide) (hY yec yep ych _ h)
theorem st_both {C : Nat} {L : Nat → Nat} (hD : D ≤ 8) (hH : H ≤ 32) (hC : C ≤ 32) (hln : nv_ln L C ln) (hpg : nv_pg L pg) (hM : nv_M O (G + 1) U H D he fr) : nf_st G O U H D cc sel cs ec ep ms fk pn pi ln pg so ed he fr ou rc sn si sf tn ti tf := by
  obtain ⟨hl, ⟨b, hb, ebl⟩, ⟨p, hp, epc⟩, _⟩ := hM.2.2.2.2 G (by omega)
  obtain ⟨hlb, hlC⟩ := hln b hb
  have hl2 : L b ≤ 32 := by omega
  by_cases hpl : L b ≤ p
  · exact st_end hD hM hb ebl epc hp hlb hl2 hpl
  · have hp2 : p < L b := by omega
    obtain ⟨o, A, B, K, eo, ea, eB, eK, i1, i2, i3, i4, i5, i6, i7, i8, i9⟩ := hpg b hb p hp2
    have ho : o = 0 ∨ o = 1 ∨ o = 2 ∨ o = 3 ∨ o = 4 ∨ o = 5 ∨ o = 6 ∨ o = 7 ∨ o = 8 ∨ o = 9 := by omega
    have hO := hM.1
    rcases ho with rfl | rfl | rfl | rfl | rfl | rfl | rfl | rfl | rfl | rfl
    · exact st_0 hD hH hM hb ebl epc hlb hl2 hp2 ea eB eK eo (i5 (by omega))
    · exact st_1 hD hH hM hb ebl epc hlb hl2 hp2 ea eB eK eo (i5 (by omega)) (i6 (by omega)) (hl B (i6 (by omega)))
    · by_cases e : fr (G * 12 + K) = -1 ∧ pn B = 0
      · exact st_2a hD hH hM hb ebl epc hlb hl2 hp2 ea eB eK eo (i5 (by omega)) (i7 rfl) i4 (hl K i4) e.1 e.2
      · by_cases e2 : G + 1 = D
        · exact st_2b hD hH hM hb ebl epc hlb hl2 hp2 ea eB eK eo (i5 (by omega)) (i7 rfl) i4 (hl K i4) e e2
        · by_cases e3 : O = H
          · exact st_2c hD hH hM hb ebl epc hlb hl2 hp2 ea eB eK eo (i5 (by omega)) (i7 rfl) i4 (hl K i4) e e2 e3
          · exact st_2d hD hH hM hb ebl epc hlb hl2 hp2 ea eB eK eo (i5 (by omega)) (i7 rfl) i4 (hl K i4) e e2 e3
    · rcases hl B (i6 (by omega)) with e | ⟨q, hq, e⟩
      · exact st_3a hD hH hM hb ebl epc hlb hl2 hp2 ea eB eK eo (i5 (by omega)) (i6 (by omega)) (i9 rfl) e
      · have hK := i9 rfl
        rcases hM.2.2.2.1 (q * 4 + K) (by omega) with e2 | ⟨r, hr, e2⟩
        · by_cases e3 : fk K = 0
          · exact st_3b hD hH hM hb ebl epc hlb hl2 hp2 ea eB eK eo (i5 (by omega)) (i6 (by omega)) hK hq e e2 e3
          · exact st_3c hD hH hM hb ebl epc hlb hl2 hp2 ea eB eK eo (i5 (by omega)) (i6 (by omega)) hK hq e e2 e3
        · exact st_3d hD hH hM hb ebl epc hlb hl2 hp2 ea eB eK eo (i5 (by omega)) (i6 (by omega)) hK hq e hr e2
    · rcases hl A (i5 (by omega)) with e | ⟨q, hq, e⟩
      · exact st_4a hD hH hM hb ebl epc hlb hl2 hp2 ea eB eK eo (i5 (by omega)) (i8 rfl) i4 e
      · rcases hl K i4 with e2 | ⟨r, hr, e2⟩
        · by_cases e3 : fk B = 0
          · exact st_4b hD hH hM hb ebl epc hlb hl2 hp2 ea eB eK eo (i5 (by omega)) (i8 rfl) i4 hq e e2 e3
          · exact st_4c hD hH hM hb ebl epc hlb hl2 hp2 ea eB eK eo (i5 (by omega)) (i8 rfl) i4 hq e e2 e3 (hl K i4)
        · exact st_4d hD hH hM hb ebl epc hlb hl2 hp2 ea eB eK eo (i5 (by omega)) (i8 rfl) i4 hq e hr e2 (hl K i4)
    · by_cases e : fr (G * 12 + A) = -1
      · exact st_5a hD hH hM hb ebl epc hlb hl2 hp2 ea eB eK eo (i5 (by omega)) i3 e
      · exact st_5b hD hH hM hb ebl epc hlb hl2 hp2 ea eB eK eo (i5 (by omega)) i3 e
    · by_cases e : fr (G * 12 + A) = -1
      · exact st_6a hD hH hM hb ebl epc hlb hl2 hp2 ea eB eK eo (i5 (by omega)) i3 e
      · exact st_6b hD hH hM hb ebl epc hlb hl2 hp2 ea eB eK eo (i5 (by omega)) i3 e
    · exact st_7 hD hH hM hb ebl epc hlb hl2 hp2 ea eB eK eo i2
    · exact st_8 hD hH hM hb ebl epc hlb hl2 hp2 ea eB eK eo
    · by_cases e : 16 ≤ U
      · exact st_9a hD hH hM hb ebl epc hlb hl2 hp2 ea eB eK eo (i5 (by omega)) e
      · exact st_9b hD hH hM hb ebl epc hlb hl2 hp2 ea eB eK eo (i5 (by omega)) (by omega)
end
