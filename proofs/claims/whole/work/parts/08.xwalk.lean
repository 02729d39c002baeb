/-! the component's checker, a method at a time -/
theorem nn_inA {a b N : Nat} (h : a + b < N) (hN : N < 2 ^ 31) : vp_in (nI a + nI b) N := by
  rw [nI_add]
  exact vp_in_nI h hN
theorem nn_clA {a b : Nat} (h : a + b < 2 ^ 31) : (nI a + nI b).toNatClampNeg = a + b := by
  rw [nI_add]
  exact nI_clamp h
theorem nn_nge {i : Nat} (n : Nat) (h : i < n) (hn : n < 2 ^ 31) : ¬ nI n ≤ nI i := nI_ge h hn
theorem nn_b0 : narrow .boolean (.int (0 : Int32)) = .int 0 := rfl
theorem nn_b1 : narrow .boolean (.int (1 : Int32)) = .int 1 := rfl
theorem nn_b {r : Int32} (h : r = 0 ∨ r = 1) : narrow .boolean (.int r) = .int r := by
  rcases h with rfl | rfl
  · rfl
  · rfl
theorem nn_nb1 : vp_nar .boolean 1 = 1 := rfl
theorem nn_nb0 : vp_nar .boolean 0 = 0 := rfl
theorem nn_st (b p : Nat) : (nI b * 33 + nI p) * 8 = nI ((b * 33 + p) * 8) := by
  rw [nn_m33, nI_add, nn_m8]
theorem nn_ct (b p : Nat) : (nI b * 32 + nI p) * 4 = nI ((b * 32 + p) * 4) := by
  rw [nn_m32, nI_add, nn_m4]
section
variable {cc hc md sel cs ec ep ms oc fc uc : Int32} {fk pn pi ln pg so ed he fr ou : Nat → Int32}
theorem xs_joined {post : Int32 → Prop} {a b : Int32} (h : post (nc_xj a b)) : wpX_joined post a b := by
  unfold nc_xj at h
  by_cases e : a = -1
  · rw [if_pos e] at h
    exact br_t e h
  · rw [if_neg e] at h
    refine br_f e ?_
    refine nm_e (nm_e (nm_e ?_))
    by_cases e2 : a &&& 6 = b &&& 6
    · rw [if_pos e2] at h
      exact br_t e2 h
    · rw [if_neg e2] at h
      exact br_f e2 h
theorem xw_load {b p : Nat} (hb : b < 4) (hp : p < 33) {post : SX → Prop} (h : post (cc, hc, md, sel, cs, ec, ep, ms, oc, fc, uc, fk, pn, pi, ln, pg, so, (na_ld so ed ((b * 33 + p) * 8) 8), he, fr, ou)) : wpX_loadEdge post (cc, hc, md, sel, cs, ec, ep, ms, oc, fc, uc, fk, pn, pi, ln, pg, so, ed, he, fr, ou) (nI b) (nI p) := by
  have K : ∀ d i, i + d = 8 → wX_loadEdge_9 post (nI ((b * 33 + p) * 8)) cc hc md sel cs ec ep ms oc fc uc (d + 1) (nI i) fk pn pi ln pg so (na_ld so ed ((b * 33 + p) * 8) i) he fr ou := by
    intro d
    induction d with
    | zero =>
      intro i hi
      obtain rfl : i = 8 := by omega
      rw [wX_loadEdge_9]
      exact br_t (by decide) h
    | succ d ih =>
      intro i hi
      rw [wX_loadEdge_9]
      refine br_f (nn_nge 8 (by omega) (by decide)) ⟨nn_inA (by omega) (by decide), vp_in_nI (by omega) (by decide), nm_r ?_ (nm_r (nI_1 i) (ih (i + 1) (by omega)))⟩
      rw [nn_clA (by omega), nI_clamp (by omega), na_ldS]
  unfold wpX_loadEdge wpX_stateAt
  rw [nn_st]
  refine ⟨9, ?_⟩
  have q := K 8 0 (by omega)
  rw [na_ld0] at q
  exact q
theorem xw_forget {f : Nat} {post : SX → Prop} (h : post (cc, hc, md, sel, cs, ec, ep, ms, oc, fc, uc, fk, pn, pi, ln, pg, so, (na_mk ed (((8 : Int32) <<< (nI f &&& 31)) ^^^ (-1)) 8), he, fr, ou)) : wpX_forgetField post (cc, hc, md, sel, cs, ec, ep, ms, oc, fc, uc, fk, pn, pi, ln, pg, so, ed, he, fr, ou) (nI f) := by
  have K : ∀ d i, i + d = 8 → wX_forgetField_2 post (nI f) cc hc md sel cs ec ep ms oc fc uc (d + 1) (nI i) fk pn pi ln pg so (na_mk ed (((8 : Int32) <<< (nI f &&& 31)) ^^^ (-1)) i) he fr ou := by
    intro d
    induction d with
    | zero =>
      intro i hi
      obtain rfl : i = 8 := by omega
      rw [wX_forgetField_2]
      exact br_t (by decide) h
    | succ d ih =>
      intro i hi
      rw [wX_forgetField_2]
      refine br_f (nn_nge 8 (by omega) (by decide)) ⟨vp_in_nI (by omega) (by decide), vp_in_nI (by omega) (by decide), nm_r ?_ (nm_r (nI_1 i) (ih (i + 1) (by omega)))⟩
      rw [nI_clamp (by omega), na_mkS, na_mkO (Nat.le_refl i)]
  unfold wpX_forgetField
  refine ⟨9, ?_⟩
  have q := K 8 0 (by omega)
  rw [na_mk0] at q
  exact q
theorem xw_cnew {a s : Nat} (ha : a < 8) (hs : s < 8) {post : SX → Prop} (h : post (cc, hc, md, sel, cs, ec, ep, ms, oc, fc, uc, fk, pn, pi, ln, pg, so, (upd (ne_xf fk ed 4) a (0 + 2 * ((ed s &&& 6) / 2))), he, fr, ou)) : wpX_changeByNew post (cc, hc, md, sel, cs, ec, ep, ms, oc, fc, uc, fk, pn, pi, ln, pg, so, ed, he, fr, ou) (nI a) (nI s) := by
  have K : ∀ d i, i + d = 4 → wX_changeByNew_13 post (nI a) ((ed s &&& 6) / 2) (d + 1) (nI i) cc hc md sel cs ec ep ms oc fc uc fk pn pi ln pg so (ne_xf fk ed i) he fr ou := by
    intro d
    induction d with
    | zero =>
      intro i hi
      obtain rfl : i = 4 := by omega
      rw [wX_changeByNew_13]
      refine br_t (by decide) ⟨vp_in_nI (by omega) (by decide), nm_r ?_ h⟩
      rw [nI_clamp (by omega)]
    | succ d ih =>
      intro i hi
      rw [wX_changeByNew_13]
      have q := ih (i + 1) (by omega)
      refine br_f (nn_nge 4 (by omega) (by decide)) ⟨vp_in_nI (by omega) (by decide), br_c (fun e => ?_) (fun e => ?_)⟩
      · rw [nI_clamp (by omega)] at e
        rw [ne_xf, if_pos e] at q
        refine xw_forget ?_
        exact nm_r (nI_1 i) q
      · rw [nI_clamp (by omega)] at e
        rw [ne_xf, if_neg e] at q
        exact nm_r (nI_1 i) q
  unfold wpX_changeByNew wpX_initOf
  refine ⟨vp_in_nI hs (by decide), by decide, 5, ?_⟩
  rw [nI_clamp (by omega)]
  exact K 4 0 (by omega)
theorem xw_cget {a s f : Nat} (ha : a < 8) (hs : s < 8) (hf : f < 4) {post : SX → Prop} {n i : Int32} (hn : n = if fk f = 0 then 0 else if (ed s &&& ((8 : Int32) <<< (nI f &&& 31))) = 0 then 1 else 0) (hi : i = if (ed s &&& 6) / 2 = 0 then 0 else 2) (h : post (cc, hc, md, sel, cs, ec, ep, ms, oc, fc, uc, fk, pn, pi, ln, pg, so, (upd ed a (n + 2 * i)), he, fr, ou)) : wpX_changeByGet post (cc, hc, md, sel, cs, ec, ep, ms, oc, fc, uc, fk, pn, pi, ln, pg, so, ed, he, fr, ou) (nI a) (nI s) (nI f) := by
  have K46 : ∀ z, z = i → wX_changeByGet_46 post (nI a) n z cc hc md sel cs ec ep ms oc fc uc fk pn pi ln pg so ed he fr ou := by
    rintro z rfl
    unfold wX_changeByGet_46
    refine ⟨vp_in_nI ha (by decide), nm_r ?_ h⟩
    rw [nI_clamp (by omega)]
  have K27 : ∀ z, z = n → wX_changeByGet_27 post (nI a) (nI s) z cc hc md sel cs ec ep ms oc fc uc fk pn pi ln pg so ed he fr ou := by
    rintro z rfl
    unfold wX_changeByGet_27 wpX_initOf
    refine ⟨vp_in_nI hs (by decide), by decide, ?_⟩
    rw [nI_clamp (by omega)]
    refine br_c (fun e => K46 0 ?_) (fun e => K46 2 ?_)
    · rw [hi, if_pos e]
    · rw [hi, if_neg e]
  unfold wpX_changeByGet wpX_knows
  refine ⟨vp_in_nI hf (by decide), ?_⟩
  rw [nI_clamp (by omega), nI_clamp (by omega)]
  refine br_c (fun e => ?_) (fun e => ⟨vp_in_nI hs (by decide), br_c (fun e2 => br_t rfl ?_) (fun e2 => br_f (by decide) ?_)⟩)
  · exact K27 0 (by rw [hn, if_pos e])
  · exact K27 1 (by rw [hn, if_neg e, if_pos e2])
  · exact K27 0 (by rw [hn, if_neg e, if_neg e2])
theorem xw_cput {x f s : Nat} (hx : x < 8) (hs : s < 8) {post : SX → Prop} (h1 : ed s &&& 1 = 0 → post (cc, hc, md, sel, cs, ec, ep, ms, oc, fc, uc, fk, pn, pi, ln, pg, so, (upd ed x (ed x ||| ((8 : Int32) <<< (nI f &&& 31)))), he, fr, ou)) (h2 : ¬ ed s &&& 1 = 0 → post (cc, hc, md, sel, cs, ec, ep, ms, oc, fc, uc, fk, pn, pi, ln, pg, so, (na_mk ed (((8 : Int32) <<< (nI f &&& 31)) ^^^ (-1)) 8), he, fr, ou)) : wpX_changeByPut post (cc, hc, md, sel, cs, ec, ep, ms, oc, fc, uc, fk, pn, pi, ln, pg, so, ed, he, fr, ou) (nI x) (nI f) (nI s) := by
  unfold wpX_changeByPut wpX_nullnessOf
  refine ⟨vp_in_nI hs (by decide), ?_⟩
  rw [nI_clamp (n := s) (by omega), nI_clamp (n := x) (by omega)]
  refine br_c (fun e => ⟨vp_in_nI hx (by decide), vp_in_nI hx (by decide), nm_e (h1 e)⟩) (fun e => xw_forget (h2 e))
theorem xw_arrive {b T t l : Nat} (hb : b < 4) (hl : ln b = nI l) (hl2 : l ≤ 32) (hT : T < 2 ^ 30) (ht : t = if l ≤ T then l else T) {post : Int32 → SX → Prop} (h : post (na_rs so ed ((b * 33 + t) * 8) 8) (cc, hc, md, sel, cs, ec, ep, ms, oc, fc, uc, fk, pn, pi, ln, pg, (na_av nc_xj so ed ((b * 33 + t) * 8) 8), ed, he, fr, ou)) : wpX_arrive post (cc, hc, md, sel, cs, ec, ep, ms, oc, fc, uc, fk, pn, pi, ln, pg, so, ed, he, fr, ou) (nI b) (nI T) := by
  have ht2 : t ≤ 32 := by
    subst ht
    split <;> omega
  have K : ∀ d i, i + d = 8 → wX_arrive_34 post (nI ((b * 33 + t) * 8)) cc hc md sel cs ec ep ms oc fc uc (d + 1) (na_rs so ed ((b * 33 + t) * 8) i) (nI i) fk pn pi ln pg (na_av nc_xj so ed ((b * 33 + t) * 8) i) ed he fr ou := by
    intro d
    induction d with
    | zero =>
      intro i hi
      obtain rfl : i = 8 := by omega
      rw [wX_arrive_34]
      exact br_t (by decide) ⟨nn_b (na_rs01 _ _ _ _), h⟩
    | succ d ih =>
      intro i hi
      rw [wX_arrive_34]
      have q := ih (i + 1) (by omega)
      refine br_f (nn_nge 8 (by omega) (by decide)) ⟨nn_inA (by omega) (by decide), nm_r (e' := so ((b * 33 + t) * 8 + i)) ?_ ⟨vp_in_nI (by omega) (by decide), ?_⟩⟩
      · rw [nn_clA (by omega), na_avO (by omega)]
      · refine xs_joined ?_
        rw [nI_clamp (by omega)]
        rw [na_rs] at q
        refine br_c (fun e => ?_) (fun e => ⟨nn_inA (by omega) (by decide), nm_r (e' := na_av nc_xj so ed ((b * 33 + t) * 8) (i + 1)) ?_ (nm_r (nI_1 i) ?_)⟩)
        · rw [if_pos e, na_avE e] at q
          exact nm_r (nI_1 i) q
        · rw [nn_clA (by omega), na_avS]
        · rw [if_neg e] at q
          exact q
  have A : wX_arrive_20 post (nI b) (nI t) cc hc md sel cs ec ep ms oc fc uc fk pn pi ln pg so ed he fr ou := by
    unfold wX_arrive_20 wpX_stateAt
    rw [nn_st]
    refine ⟨9, ?_⟩
    have q := K 8 0 (by omega)
    rw [na_av0] at q
    exact q
  unfold wpX_arrive
  refine ⟨vp_in_nI hb (by decide), ?_⟩
  rw [nI_clamp (by omega), hl]
  refine pk_le l T (fun e => ⟨vp_in_nI hb (by decide), ?_⟩) (fun e => ?_)
  · rw [if_pos e] at ht
    subst ht
    exact A
  · rw [if_neg (by omega)] at ht
    subst ht
    exact A
end
