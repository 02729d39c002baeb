/-! one point's edges, both sides at once -/
theorem nr_setF {ed tn ti tf : Nat → Int32} {a : Nat} {s f : Int32} (h : nr_er ed tn ti tf) (hc : ∃ c, nc_cr s (tn a) (ti a) f c) : nr_er (upd ed a s) tn ti (upd tf a f) := by
  intro l hl
  by_cases e : l = a
  · subst e
    rw [pk_us, pk_us]
    exact hc
  · rw [pk_un e, pk_un e]
    exact h l hl
theorem nr_ldE {so rc sn si sf ed tn ti tf : Nat → Int32} {q : Nat} (h : nr_pt so rc sn si sf q) (h1 : rc q = 1) : nr_er (na_ld so ed (q * 8) 8) (na_ld sn tn (q * 8) 8) (na_ld si ti (q * 8) 8) (na_ld sf tf (q * 8) 8) := by
  intro l hl
  rw [na_ldI hl, na_ldI hl, na_ldI hl, na_ldI hl]
  rcases h with ⟨h2, _⟩ | ⟨_, h3⟩
  · rw [h1] at h2
    exact absurd h2 (by decide)
  · exact h3 l hl
section
variable {cc hc md sel cs ec ep ms oc fc uc : Int32} {fk pn pi ln pg so ed he fr ou rc sn si sf tn ti tf : Nat → Int32}
theorem ar_both {b T t C : Nat} {L : Nat → Nat} (hb : b < 4) (hC : C ≤ 32) (hln : nv_ln L C ln) (hT : T < 2 ^ 30) (ht : t = if L b ≤ T then L b else T) (hE : nr_er ed tn ti tf) (hq : nr_pt so rc sn si sf (b * 33 + t)) : ∃ (r : Int32) (so' rc' sn' si' sf' : Nat → Int32), nr_go b so rc sn si sf so' rc' sn' si' sf' r ∧ (∀ q' l, l < 8 → rc q' = 1 → (q' = b * 33 + t → tn l = sn ((b * 33 + t) * 8 + l) ∧ ti l = si ((b * 33 + t) * 8 + l) ∧ tf l = sf ((b * 33 + t) * 8 + l)) → sn' (q' * 8 + l) = sn (q' * 8 + l) ∧ si' (q' * 8 + l) = si (q' * 8 + l) ∧ sf' (q' * 8 + l) = sf (q' * 8 + l)) ∧ (∀ post : Int32 → SX → Prop, post r (cc, hc, md, sel, cs, ec, ep, ms, oc, fc, uc, fk, pn, pi, ln, pg, so', ed, he, fr, ou) → wpX_arrive post (cc, hc, md, sel, cs, ec, ep, ms, oc, fc, uc, fk, pn, pi, ln, pg, so, ed, he, fr, ou) (nI b) (nI T)) ∧ (∀ (yec yep ych : Int32) (post : SY → Prop), post (cc, hc, md, sel, yec, yep, cs, ms, oc, uc, fc, (if r = 0 then ych else 1), fk, pn, pi, ln, pg, rc', sn', si', sf', tn, ti, tf, he, ou, fr) → wpY_join post (cc, hc, md, sel, yec, yep, cs, ms, oc, uc, fc, ych, fk, pn, pi, ln, pg, rc, sn, si, sf, tn, ti, tf, he, ou, fr) (nI b) (nI t)) := by
  obtain ⟨hl, hl2⟩ := hln b hb
  have ht2 : t ≤ 32 := by
    subst ht
    split <;> omega
  refine ⟨na_rs so ed ((b * 33 + t) * 8) 8, _, upd rc (b * 33 + t) 1, _, _, _, nr_arG (z := if rc (b * 33 + t) = 0 then 1 else 0) (by omega) (by omega) hq hE rfl, ?_, ?_, ?_⟩
  · intro q' l hl h1 e
    exact nr_keep hl h1 rfl e
  · intro post h
    exact xw_arrive hb hl (by omega) hT ht h
  · intro yec yep ych post h
    refine yw_join hb ht2 rfl ?_
    rw [nr_arH hq hE rfl ych]
    exact h
end
def nf_fl (b p : Nat) (cc hc md sel cs ec ep ms oc fc uc : Int32) (fk pn pi ln pg so ed he fr ou rc sn si sf tn ti tf : Nat → Int32) : Prop := ∃ (r : Int32) (so' ed' rc' sn' si' sf' tn' ti' tf' : Nat → Int32), nr_go b so rc sn si sf so' rc' sn' si' sf' r ∧ (∀ post : Int32 → SX → Prop, post r (cc, hc, md, sel, cs, ec, ep, ms, oc, fc, uc, fk, pn, pi, ln, pg, so', ed', he, fr, ou) → wpX_flow post (cc, hc, md, sel, cs, ec, ep, ms, oc, fc, uc, fk, pn, pi, ln, pg, so, ed, he, fr, ou) (nI b) (nI p)) ∧ (∀ (yec yep ych : Int32) (post : SY → Prop), post (cc, hc, md, sel, yec, yep, cs, ms, oc, uc, fc, (if r = 0 then ych else 1), fk, pn, pi, ln, pg, rc', sn', si', sf', tn', ti', tf', he, ou, fr) → wpY_edges post (cc, hc, md, sel, yec, yep, cs, ms, oc, uc, fc, ych, fk, pn, pi, ln, pg, rc, sn, si, sf, tn, ti, tf, he, ou, fr) (nI b) (nI p))
section
variable {cc hc md sel cs ec ep ms oc fc uc : Int32} {fk pn pi ln pg so ed he fr ou rc sn si sf tn ti tf : Nat → Int32} {b p C : Nat} {L : Nat → Nat} {o A B K : Nat}
theorem fl_core {T t : Nat} {ed' tn' ti' tf' : Nat → Int32} (hb : b < 4) (hC : C ≤ 32) (hln : nv_ln L C ln) (hp : p < L b) (eo : pg ((b * 32 + p) * 4) = nI o) (ea : pg ((b * 32 + p) * 4 + 1) = nI A) (eB : pg ((b * 32 + p) * 4 + 2) = nI B) (eK : pg ((b * 32 + p) * 4 + 3) = nI K) (hS : nr_S (b + 1) L so rc sn si sf) (ho : o < 10) (ho5 : o ≠ 5) (ho6 : o ≠ 6) (hE : nr_er ed' tn' ti' tf') (hT : T < 2 ^ 30) (ht : t = if L b ≤ T then L b else T) (hTv : (if o = 7 then nI A else if o = 8 then ln b else nI (p + 1)) = nI T) (hX : ∀ post : SX → Prop, post (cc, hc, md, sel, cs, ec, ep, ms, oc, fc, uc, fk, pn, pi, ln, pg, so, ed', he, fr, ou) → wpX_changeEdge post (cc, hc, md, sel, cs, ec, ep, ms, oc, fc, uc, fk, pn, pi, ln, pg, so, (na_ld so ed ((b * 33 + p) * 8) 8), he, fr, ou) (nI o) (nI A) (nI B) (nI K)) (hY : ∀ (yec yep ych : Int32) (post : SY → Prop), wY_edges_485 post (nI b) (nI t) cc hc md sel yec yep cs ms oc uc fc ych fk pn pi ln pg rc sn si sf tn' ti' tf' he ou fr → wpY_edges post (cc, hc, md, sel, yec, yep, cs, ms, oc, uc, fc, ych, fk, pn, pi, ln, pg, rc, sn, si, sf, tn, ti, tf, he, ou, fr) (nI b) (nI p)) : nf_fl b p cc hc md sel cs ec ep ms oc fc uc fk pn pi ln pg so ed he fr ou rc sn si sf tn ti tf := by
  obtain ⟨hlb, hl2⟩ := hln b hb
  have ht2 : t ≤ L b := by
    subst ht
    split <;> omega
  obtain ⟨r, so', rc', sn', si', sf', hg, _, hAX, hAY⟩ := ar_both (ed := ed') (tn := tn') (ti := ti') (tf := tf') (cc := cc) (hc := hc) (md := md) (sel := sel) (cs := cs) (ec := ec) (ep := ep) (ms := ms) (oc := oc) (fc := fc) (uc := uc) (fk := fk) (pn := pn) (pi := pi) (pg := pg) (he := he) (fr := fr) (ou := ou) hb hC hln hT ht hE (hS b (by omega) t ht2)
  refine ⟨r, so', ed', rc', sn', si', sf', tn', ti', tf', hg, fun post h => ?_, fun yec yep ych post h => ?_⟩
  · have F : wX_flow_135 post (nI b) (nI T) cc hc md sel cs ec ep ms oc fc uc fk pn pi ln pg so ed' he fr ou := by
      unfold wX_flow_135
      exact hAX _ ⟨nn_b hg.1, h⟩
    unfold wpX_flow wpX_codeAt
    rw [nn_ct]
    refine ⟨vp_in_nI (by omega) (by decide), nm_r (e' := nI o) (by rw [nI_clamp (by omega)]; exact eo) ⟨pk_in _ 512 (by omega) (nn_a1 _) (by decide), nm_r (e' := nI A) (by rw [nn_a1, nI_clamp (by omega)]; exact ea) ⟨pk_in _ 512 (by omega) (nn_a2 _) (by decide), nm_r (e' := nI B) (by rw [nn_a2, nI_clamp (by omega)]; exact eB) ⟨pk_in _ 512 (by omega) (nn_a3 _) (by decide), nm_r (e' := nI K) (by rw [nn_a3, nI_clamp (by omega)]; exact eK) ?_⟩⟩⟩⟩
    refine xw_load hb (by omega) ?_
    refine br_f (fun e => ho5 ((nl_eq5 (by omega)).mp e)) (br_f (fun e => ho6 ((nl_eq6 (by omega)).mp e)) (hX _ ?_))
    refine nm_r (nn_a1 p) (br_c (fun e => ?_) (fun e => br_c (fun e2 => ⟨vp_in_nI hb (by decide), nm_r (e' := nI T) ?_ F⟩) (fun e2 => ?_)))
    · have k : nI A = nI T := by rw [← hTv, if_pos ((nl_eq7 (by omega)).mp e)]
      rw [k]
      exact F
    · rw [← hTv, nI_clamp (by omega), if_neg (fun z => e ((nl_eq7 (by omega)).mpr z)), if_pos ((nl_eq8 (by omega)).mp e2)]
    · have k : nI (p + 1) = nI T := by rw [← hTv, if_neg (fun z => e ((nl_eq7 (by omega)).mpr z)), if_neg (fun z => e2 ((nl_eq8 (by omega)).mpr z))]
      rw [k]
      exact F
  · refine hY yec yep ych post ?_
    unfold wY_edges_485
    exact hAY yec yep ych _ h
end
