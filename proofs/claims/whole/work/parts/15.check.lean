/-! run's loop and check's loop, both sides at once -/
section
variable {cc sel cs ec ep : Int32} {fk pn pi ln pg so ed rc sn si sf tn ti tf : Nat → Int32} {H D C N : Nat} {L : Nat → Nat}
theorem rn_both (hD : D ≤ 8) (hH : H ≤ 32) (hC : C ≤ 32) (hln : nv_ln L C ln) (hpg : nv_pg L pg) (hN : N ≤ 10000) : ∀ d i, i + d = N → ∀ (ms : Int32) (O F U : Nat) (he fr ou : Nat → Int32), 1 ≤ F → nv_M O F U H D he fr → ∃ (ms' : Int32) (O' F' U' : Nat) (he' fr' ou' : Nat → Int32), 1 ≤ F' ∧ nv_M O' F' U' H D he' fr' ∧ (∀ post : Int32 → SX → Prop, post ms' (cc, (nI H), (nI D), sel, cs, ec, ep, ms', (nI O'), (nI F'), (nI U'), fk, pn, pi, ln, pg, so, ed, he', fr', ou') → wX_run_23 post (nI N) (d + 1) (nI i) cc (nI H) (nI D) sel cs ec ep ms (nI O) (nI F) (nI U) fk pn pi ln pg so ed he fr ou) ∧ (∀ (yec yep ych : Int32) (post : Int32 → SY → Prop), post ms' (cc, (nI H), (nI D), sel, yec, yep, cs, ms', (nI O'), (nI U'), (nI F'), ych, fk, pn, pi, ln, pg, rc, sn, si, sf, tn, ti, tf, he', ou', fr') → wY_run_37 post (nI N) (d + 1) (nI i) cc (nI H) (nI D) sel yec yep cs ms (nI O) (nI U) (nI F) ych fk pn pi ln pg rc sn si sf tn ti tf he ou fr) := by
  intro d
  induction d with
  | zero =>
    intro i hi ms O F U he fr ou hF hM
    obtain rfl : i = N := by omega
    refine ⟨ms, O, F, U, he, fr, ou, hF, hM, fun post h => ?_, fun yec yep ych post h => ?_⟩
    · rw [wX_run_23]
      exact br_t (nI_le (Nat.le_refl _) (by omega)) h
    · rw [wY_run_37]
      exact br_t (nI_le (Nat.le_refl _) (by omega)) h
  | succ d ih =>
    intro i hi ms O F U he fr ou hF hM
    have ngt : ¬ nI N ≤ nI i := nI_ge (by omega) (by omega)
    by_cases e : ms = 21
    · obtain ⟨G, rfl⟩ : ∃ G, F = G + 1 := ⟨F - 1, by omega⟩
      obtain ⟨ms1, O1, F1, U1, he1, fr1, ou1, hF1, hM1, hX1, hY1⟩ := st_both (cc := cc) (sel := sel) (cs := cs) (ec := ec) (ep := ep) (ms := ms) (fk := fk) (pn := pn) (pi := pi) (so := so) (ed := ed) (ou := ou) (rc := rc) (sn := sn) (si := si) (sf := sf) (tn := tn) (ti := ti) (tf := tf) hD hH hC hln hpg hM
      obtain ⟨ms', O', F', U', he', fr', ou', hF', hM', hX, hY⟩ := ih (i + 1) (by omega) ms1 O1 F1 U1 he1 fr1 ou1 hF1 hM1
      refine ⟨ms', O', F', U', he', fr', ou', hF', hM', fun post h => ?_, fun yec yep ych post h => ?_⟩
      · rw [wX_run_23]
        exact br_f ngt (br_t e (hX1 _ (nm_r (nI_1 i) (hX post h))))
      · rw [wY_run_37]
        exact br_f ngt (br_t e (hY1 yec yep ych _ (nm_r (nI_1 i) (hY yec yep ych post h))))
    · refine ⟨ms, O, F, U, he, fr, ou, hF, hM, fun post h => ?_, fun yec yep ych post h => ?_⟩
      · rw [wX_run_23]
        exact br_f ngt (br_f e h)
      · rw [wY_run_37]
        exact br_f ngt (br_f e h)
end
section
variable {cc hc md sel cs ec ep ms oc fc uc : Int32} {fk pn pi ln pg he fr ou : Nat → Int32} {C : Nat} {L : Nat → Nat}
theorem ck_both (hC : C ≤ 32) (hde : nv_de fk pn pi) (hln : nv_ln L C ln) (hpg : nv_pg L pg) : ∀ d b, b + d = 4 → ∀ (so ed rc sn si sf tn ti tf : Nat → Int32), nr_S b L so rc sn si sf → (∀ j, b * 33 ≤ j → j < 132 → rc j = 0) → ∃ (so4 ed4 rc4 sn4 si4 sf4 tn4 ti4 tf4 : Nat → Int32) (e pl : Int32), nr_S 4 L so4 rc4 sn4 si4 sf4 ∧ (∀ j, j < b * 264 → so4 j = so j) ∧ (e = 0 → pl = -1) ∧ (∀ post : Int32 → SX → Prop, wX_check_2 post 1 (nI 4) cc hc md sel cs ec ep ms oc fc uc fk pn pi ln pg so4 ed4 he fr ou → wX_check_2 post (d + 1) (nI b) cc hc md sel cs ec ep ms oc fc uc fk pn pi ln pg so ed he fr ou) ∧ (∀ post : SX → Prop, post (cc, hc, md, sel, cs, e, pl, ms, oc, fc, uc, fk, pn, pi, ln, pg, so4, ed4, he, fr, ou) → wX_report_12 post cc hc md sel cs (-1) ms oc fc uc fk pn pi ln pg so4 ed4 he fr ou (d + 1) (nI b) 0) ∧ (∀ (yec yep ych er : Int32) (post : Int32 → SY → Prop), (∀ yec' ych' : Int32, wY_check_31 post 1 (if er = 0 then e else er) (nI 4) cc hc md sel yec' (if er = 0 then (if e = 0 then yep else pl) else yep) cs ms oc uc fc ych' fk pn pi ln pg rc4 sn4 si4 sf4 tn4 ti4 tf4 he ou fr) → wY_check_31 post (d + 1) er (nI b) cc hc md sel yec yep cs ms oc uc fc ych fk pn pi ln pg rc sn si sf tn ti tf he ou fr) := by
  intro d
  induction d with
  | zero =>
    intro b hb so ed rc sn si sf tn ti tf hS hz
    obtain rfl : b = 4 := by omega
    refine ⟨so, ed, rc, sn, si, sf, tn, ti, tf, 0, -1, hS, fun _ _ => rfl, fun _ => rfl, fun post h => h, fun post h => ?_, fun yec yep ych er post h => ?_⟩
    · rw [wX_report_12]
      exact br_t (by decide) h
    · have q := h yec ych
      have k1 : (if er = 0 then 0 else er) = er := by
        by_cases z : er = 0
        · rw [if_pos z, z]
        · rw [if_neg z]
      have k2 : (if er = 0 then (if (0 : Int32) = 0 then yep else -1) else yep) = yep := by
        by_cases z : er = 0
        · rw [if_pos z, if_pos rfl]
        · rw [if_neg z]
      rw [k1, k2] at q
      exact q
  | succ d ih =>
    intro b hb so ed rc sn si sf tn ti tf hS hz
    have hb4 : b < 4 := by omega
    obtain ⟨hlb, hlC⟩ := hln b hb4
    obtain ⟨so1, so', ed', rc', sn', si', sf', tn', ti', tf', hS', hlow, hz', hXe, hXs, hYs⟩ := sv_both (cc := cc) (hc := hc) (md := md) (sel := sel) (cs := cs) (ec := ec) (ep := ep) (ms := ms) (oc := oc) (fc := fc) (uc := uc) (ed := ed) (he := he) (fr := fr) (ou := ou) (tn := tn) (ti := ti) (tf := tf) hb4 hC hde hln hpg hS hz
    obtain ⟨so4, ed4, rc4, sn4, si4, sf4, tn4, ti4, tf4, e1, pl1, hS4, hlow4, hepl, hX1, hX2, hY⟩ := ih (b + 1) (by omega) so' ed' rc' sn' si' sf' tn' ti' tf' hS' (fun j h1 h2 => hz' j (by omega) h2)
    have ngt : ¬ (4 : Int32) ≤ nI b := nn_nge 4 (by omega) (by decide)
    have HX1 : ∀ post : Int32 → SX → Prop, wX_check_2 post 1 (nI 4) cc hc md sel cs ec ep ms oc fc uc fk pn pi ln pg so4 ed4 he fr ou → wX_check_2 post (d + 1 + 1) (nI b) cc hc md sel cs ec ep ms oc fc uc fk pn pi ln pg so ed he fr ou := by
      intro post h
      rw [wX_check_2]
      exact br_f ngt (hXe _ (hXs _ (nm_r (nI_1 b) (hX1 post h))))
    have hq : ∀ p, p ≤ L b → nr_pt so4 rc' sn' si' sf' (b * 33 + p) := fun p hp => nr_frame (hS' b (by omega) p hp) rfl (fun l hl => ⟨hlow4 _ (by omega), rfl, rfl, rfl⟩)
    have HF : ∀ (yec yep ych : Int32) (post : Int32 → SY → Prop) (n : Nat), wY_findErr_7 post (nI b) (ne_ym fk 4) cc hc md sel yec yep cs ms oc uc fc ych fk pn pi ln pg rc' sn' si' sf' tn' ti' tf' he ou fr n 0 → wpY_findErr post (cc, hc, md, sel, yec, yep, cs, ms, oc, uc, fc, ych, fk, pn, pi, ln, pg, rc', sn', si', sf', tn', ti', tf', he, ou, fr) (nI b) := by
      intro yec yep ych post n h
      unfold wpY_findErr
      exact yw_mask ⟨n, h⟩
    rcases rp_in (cc := cc) (hc := hc) (md := md) (sel := sel) (cs := cs) (ep := -1) (ms := ms) (oc := oc) (fc := fc) (uc := uc) (ed := ed4) (he := he) (fr := fr) (ou := ou) (tn := tn') (ti := ti') (tf := tf') hb4 hde.1 hlb (by omega) hpg hq (L b + 1) 0 (by omega) with ⟨hRX, hRY⟩ | ⟨p', e, hp', he0, hRX, hRY⟩
    · refine ⟨so4, ed4, rc4, sn4, si4, sf4, tn4, ti4, tf4, e1, pl1, hS4, fun j hj => (hlow4 j (by omega)).trans (hlow j hj), hepl, HX1, fun post h => ?_, fun yec yep ych er post h => ?_⟩
      · rw [wX_report_12]
        refine br_f ngt ⟨L b + 1 + 1, hRX post _ ?_⟩
        rw [nI_1]
        exact hX2 post h
      · rw [wY_check_31]
        have q := hY yec yep 0 er post h
        exact br_f ngt (hYs yec yep ych _ (HF yec yep 0 _ _ (hRY yec yep 0 _ (br_c (fun _ => br_t (by decide) (nm_r (nI_1 b) q)) (fun _ => nm_r (nI_1 b) q)))))
    · refine ⟨so4, ed4, rc4, sn4, si4, sf4, tn4, ti4, tf4, e, nI (64 * b + p'), hS4, fun j hj => (hlow4 j (by omega)).trans (hlow j hj), fun z => absurd z he0, HX1, fun post h => ?_, fun yec yep ych er post h => ?_⟩
      · rw [wX_report_12]
        exact br_f ngt ⟨L b + 1 + 1, hRX post _ h⟩
      · rw [wY_check_31]
        refine br_f ngt (hYs yec yep ych _ (HF yec yep 0 _ _ (hRY yec yep 0 _ (br_c (fun z => br_f (nI_pos (by omega)) (nm_r (e' := nI (64 * b + p')) (by rw [nn_m64, nI_add]) (nm_r (nI_1 b) (hY e _ 0 e post ?_)))) (fun z => nm_r (nI_1 b) (hY e yep 0 er post ?_))))))
        · intro yec' ych'
          have q := h yec' ych'
          rw [if_pos z, if_pos z, if_neg he0] at q
          rw [if_neg he0, if_neg he0]
          exact q
        · intro yec' ych'
          have q := h yec' ych'
          rw [if_neg z, if_neg z] at q
          rw [if_neg z, if_neg z]
          exact q
end
section
variable {cc hc md sel yec yep cs ms oc uc fc ych : Int32} {fk pn pi ln pg rc sn si sf tn ti tf he ou fr : Nat → Int32}
theorem yc_clear {post : Int32 → SY → Prop} (h : ∃ n, wY_check_31 post n 0 0 cc hc md sel yec (-1) cs ms oc uc fc ych fk pn pi ln pg (na_fi rc 0 132 0) sn si sf tn ti tf he ou fr) : wpY_check post (cc, hc, md, sel, yec, yep, cs, ms, oc, uc, fc, ych, fk, pn, pi, ln, pg, rc, sn, si, sf, tn, ti, tf, he, ou, fr) := by
  have K : ∀ d i, i + d = 132 → wY_check_2 post cc hc md sel yec yep cs ms oc uc fc ych (d + 1) (nI i) fk pn pi ln pg (na_fi rc 0 i 0) sn si sf tn ti tf he ou fr := by
    intro d
    induction d with
    | zero =>
      intro i hi
      obtain rfl : i = 132 := by omega
      rw [wY_check_2]
      exact br_t (by decide) h
    | succ d ih =>
      intro i hi
      rw [wY_check_2]
      refine br_f (nn_nge 132 (by omega) (by decide)) ⟨vp_in_nI (by omega) (by decide), nm_r ?_ (nm_r (nI_1 i) (ih (i + 1) (by omega)))⟩
      rw [nI_clamp (by omega), nn_nb0, na_fiS, Nat.zero_add]
  unfold wpY_check
  refine ⟨133, ?_⟩
  have q := K 132 0 (by omega)
  rw [na_fi0] at q
  exact q
theorem yc_88 {z0 x1 : Int32} {post : Int32 → SY → Prop} (h : post x1 (cc, hc, md, sel, yec, yep, z0, 21, 0, 0, 1, ych, fk, pn, pi, ln, pg, rc, sn, si, sf, tn, ti, tf, he, ou, (upd (upd (upd (upd (na_fi fr 0 8 (-1)) 8 0) 9 0) 10 (-1)) 11 (-1)))) : wY_check_88 post x1 z0 cc hc md sel yec yep cs ms oc uc fc ych fk pn pi ln pg rc sn si sf tn ti tf he ou fr := by
  have K : ∀ d i, i + d = 8 → wY_check_114 post x1 cc hc md sel yec yep z0 21 0 0 1 ych (d + 1) (nI i) fk pn pi ln pg rc sn si sf tn ti tf he ou (na_fi fr 0 i (-1)) := by
    intro d
    induction d with
    | zero =>
      intro i hi
      obtain rfl : i = 8 := by omega
      rw [wY_check_114]
      exact br_t (by decide) (nm_e (nm_e (nm_e (nm_e h))))
    | succ d ih =>
      intro i hi
      rw [wY_check_114]
      refine br_f (nn_nge 8 (by omega) (by decide)) ⟨vp_in_nI (by omega) (by decide), nm_r ?_ (nm_r (nI_1 i) (ih (i + 1) (by omega)))⟩
      rw [nI_clamp (by omega), na_fiS, Nat.zero_add]
  unfold wY_check_88
  refine ⟨9, ?_⟩
  have q := K 8 0 (by omega)
  rw [na_fi0] at q
  exact q
end
