/-! the edges of one point, op by op -/
section
variable {cc hc md sel cs ec ep ms oc fc uc : Int32} {fk pn pi ln pg so ed he fr ou rc sn si sf tn ti tf : Nat → Int32} {b p C : Nat} {L : Nat → Nat} {A B K : Nat}
theorem fl_0 (hb : b < 4) (hC : C ≤ 32) (hln : nv_ln L C ln) (hp : p < L b) (ea : pg ((b * 32 + p) * 4 + 1) = nI A) (eB : pg ((b * 32 + p) * 4 + 2) = nI B) (eK : pg ((b * 32 + p) * 4 + 3) = nI K) (hS : nr_S (b + 1) L so rc sn si sf) (h1 : rc (b * 33 + p) = 1) (eo : pg ((b * 32 + p) * 4) = nI 0) (hA : A < 8) : nf_fl b p cc hc md sel cs ec ep ms oc fc uc fk pn pi ln pg so ed he fr ou rc sn si sf tn ti tf := by
  obtain ⟨hlb, hl2⟩ := hln b hb
  have hE0 : nr_er (na_ld so ed ((b * 33 + p) * 8) 8) (na_ld sn tn ((b * 33 + p) * 8) 8) (na_ld si ti ((b * 33 + p) * 8) 8) (na_ld sf tf ((b * 33 + p) * 8) 8) := nr_ldE (hS b (by omega) p (by omega)) h1
  refine fl_core (o := 0) (T := p + 1) (t := p + 1) (ed' := upd (na_ld so ed ((b * 33 + p) * 8) 8) A 1) (tn' := upd (na_ld sn tn ((b * 33 + p) * 8) 8) A 1) (ti' := upd (na_ld si ti ((b * 33 + p) * 8) 8) A 0) (tf' := upd (na_ld sf tf ((b * 33 + p) * 8) 8) A 0) hb hC hln hp eo ea eB eK hS (by omega) (by omega) (by omega) (nr_set hE0 nr_c1) (by omega) (by split <;> omega) (by simp) ?_ ?_
  · intro post h
    unfold wpX_changeEdge
    exact br_f (by decide) (br_f (by decide) (br_t (by decide) ⟨vp_in_nI hA (by decide), nm_r (by rw [nI_clamp (by omega)]) h⟩))
  · intro yec yep ych post h
    unfold wpY_edges
    refine nm_r (nn_ct b p) ⟨vp_in_nI (by omega) (by decide), nm_r (e' := nI 0) (by rw [nI_clamp (by omega)]; exact eo) ⟨pk_in _ 512 (by omega) (nn_a1 _) (by decide), nm_r (e' := nI A) (by rw [nn_a1, nI_clamp (by omega)]; exact ea) ⟨pk_in _ 512 (by omega) (nn_a2 _) (by decide), nm_r (e' := nI B) (by rw [nn_a2, nI_clamp (by omega)]; exact eB) ⟨pk_in _ 512 (by omega) (nn_a3 _) (by decide), nm_r (e' := nI K) (by rw [nn_a3, nI_clamp (by omega)]; exact eK) ⟨vp_in_nI hb (by decide), nm_r (e' := nI (L b)) (by rw [nI_clamp (by omega)]; exact hlb) (nm_r (nn_a1 p) ?_)⟩⟩⟩⟩⟩
    refine yw_load hb (by omega) ?_
    exact br_t (by decide) (yw_set hA h)
theorem fl_1 (hb : b < 4) (hC : C ≤ 32) (hln : nv_ln L C ln) (hp : p < L b) (ea : pg ((b * 32 + p) * 4 + 1) = nI A) (eB : pg ((b * 32 + p) * 4 + 2) = nI B) (eK : pg ((b * 32 + p) * 4 + 3) = nI K) (hS : nr_S (b + 1) L so rc sn si sf) (h1 : rc (b * 33 + p) = 1) (eo : pg ((b * 32 + p) * 4) = nI 1) (hA : A < 8) (hB : B < 8) : nf_fl b p cc hc md sel cs ec ep ms oc fc uc fk pn pi ln pg so ed he fr ou rc sn si sf tn ti tf := by
  obtain ⟨hlb, hl2⟩ := hln b hb
  have hE0 : nr_er (na_ld so ed ((b * 33 + p) * 8) 8) (na_ld sn tn ((b * 33 + p) * 8) 8) (na_ld si ti ((b * 33 + p) * 8) 8) (na_ld sf tf ((b * 33 + p) * 8) 8) := nr_ldE (hS b (by omega) p (by omega)) h1
  obtain ⟨c, hcx⟩ := hE0 B hB
  refine fl_core (o := 1) (T := p + 1) (t := p + 1) (ed' := upd (na_ld so ed ((b * 33 + p) * 8) 8) A ((na_ld so ed ((b * 33 + p) * 8) 8) B)) (tn' := upd (na_ld sn tn ((b * 33 + p) * 8) 8) A ((na_ld sn tn ((b * 33 + p) * 8) 8) B)) (ti' := upd (na_ld si ti ((b * 33 + p) * 8) 8) A ((na_ld si ti ((b * 33 + p) * 8) 8) B)) (tf' := upd (na_ld sf tf ((b * 33 + p) * 8) 8) A ((na_ld sf tf ((b * 33 + p) * 8) 8) B)) hb hC hln hp eo ea eB eK hS (by omega) (by omega) (by omega) (nr_set hE0 hcx) (by omega) (by split <;> omega) (by simp) ?_ ?_
  · intro post h
    unfold wpX_changeEdge
    exact br_f (by decide) (br_f (by decide) (br_f (by decide) (br_t (by decide) ⟨vp_in_nI hB (by decide), vp_in_nI hA (by decide), nm_r (by rw [nI_clamp (by omega), nI_clamp (by omega)]) h⟩)))
  · intro yec yep ych post h
    unfold wpY_edges
    refine nm_r (nn_ct b p) ⟨vp_in_nI (by omega) (by decide), nm_r (e' := nI 1) (by rw [nI_clamp (by omega)]; exact eo) ⟨pk_in _ 512 (by omega) (nn_a1 _) (by decide), nm_r (e' := nI A) (by rw [nn_a1, nI_clamp (by omega)]; exact ea) ⟨pk_in _ 512 (by omega) (nn_a2 _) (by decide), nm_r (e' := nI B) (by rw [nn_a2, nI_clamp (by omega)]; exact eB) ⟨pk_in _ 512 (by omega) (nn_a3 _) (by decide), nm_r (e' := nI K) (by rw [nn_a3, nI_clamp (by omega)]; exact eK) ⟨vp_in_nI hb (by decide), nm_r (e' := nI (L b)) (by rw [nI_clamp (by omega)]; exact hlb) (nm_r (nn_a1 p) ?_)⟩⟩⟩⟩⟩
    refine yw_load hb (by omega) ?_
    refine br_f (by decide) (br_t (by decide) ⟨vp_in_nI hB (by decide), vp_in_nI hB (by decide), vp_in_nI hB (by decide), ?_⟩)
    rw [nI_clamp (n := B) (by omega)]
    exact yw_set hA h
theorem fl_2 (hb : b < 4) (hC : C ≤ 32) (hln : nv_ln L C ln) (hp : p < L b) (ea : pg ((b * 32 + p) * 4 + 1) = nI A) (eB : pg ((b * 32 + p) * 4 + 2) = nI B) (eK : pg ((b * 32 + p) * 4 + 3) = nI K) (hS : nr_S (b + 1) L so rc sn si sf) (h1 : rc (b * 33 + p) = 1) (eo : pg ((b * 32 + p) * 4) = nI 2) (hA : A < 8) (hK : K < 8) (hfk : ∀ j, j < 4 → fk j = 0 ∨ fk j = 1) : nf_fl b p cc hc md sel cs ec ep ms oc fc uc fk pn pi ln pg so ed he fr ou rc sn si sf tn ti tf := by
  obtain ⟨hlb, hl2⟩ := hln b hb
  have hE0 : nr_er (na_ld so ed ((b * 33 + p) * 8) 8) (na_ld sn tn ((b * 33 + p) * 8) 8) (na_ld si ti ((b * 33 + p) * 8) 8) (na_ld sf tf ((b * 33 + p) * 8) 8) := nr_ldE (hS b (by omega) p (by omega)) h1
  obtain ⟨c, hcx⟩ := hE0 K hK
  obtain ⟨d, hd⟩ := ne_mkc (n := 0) (Or.inl rfl) (ne_ini hcx).2
  have hd2 : nc_cr (0 + 2 * (((na_ld so ed ((b * 33 + p) * 8) 8) K &&& 6) / 2)) 0 ((na_ld si ti ((b * 33 + p) * 8) 8) K) 0 d := by
    rw [(ne_ini hcx).1]
    exact hd
  refine fl_core (o := 2) (T := p + 1) (t := p + 1) (ed' := upd (ne_xf fk (na_ld so ed ((b * 33 + p) * 8) 8) 4) A (0 + 2 * (((na_ld so ed ((b * 33 + p) * 8) 8) K &&& 6) / 2))) (tn' := upd (na_ld sn tn ((b * 33 + p) * 8) 8) A 0) (ti' := upd (na_ld si ti ((b * 33 + p) * 8) 8) A ((na_ld si ti ((b * 33 + p) * 8) 8) K)) (tf' := upd (na_mk (na_ld sf tf ((b * 33 + p) * 8) 8) (ne_ym fk 4) 8) A 0) hb hC hln hp eo ea eB eK hS (by omega) (by omega) (by omega) (nr_set (ne_new hfk hE0) hd2) (by omega) (by split <;> omega) (by simp) ?_ ?_
  · intro post h
    unfold wpX_changeEdge
    exact br_f (by decide) (br_f (by decide) (br_f (by decide) (br_f (by decide) (br_t (by decide) (xw_cnew hA hK h)))))
  · intro yec yep ych post h
    unfold wpY_edges
    refine nm_r (nn_ct b p) ⟨vp_in_nI (by omega) (by decide), nm_r (e' := nI 2) (by rw [nI_clamp (by omega)]; exact eo) ⟨pk_in _ 512 (by omega) (nn_a1 _) (by decide), nm_r (e' := nI A) (by rw [nn_a1, nI_clamp (by omega)]; exact ea) ⟨pk_in _ 512 (by omega) (nn_a2 _) (by decide), nm_r (e' := nI B) (by rw [nn_a2, nI_clamp (by omega)]; exact eB) ⟨pk_in _ 512 (by omega) (nn_a3 _) (by decide), nm_r (e' := nI K) (by rw [nn_a3, nI_clamp (by omega)]; exact eK) ⟨vp_in_nI hb (by decide), nm_r (e' := nI (L b)) (by rw [nI_clamp (by omega)]; exact hlb) (nm_r (nn_a1 p) ?_)⟩⟩⟩⟩⟩
    refine yw_load hb (by omega) ?_
    exact br_f (by decide) (br_f (by decide) (br_t (by decide) ⟨vp_in_nI hK (by decide), nm_r (e' := (na_ld si ti ((b * 33 + p) * 8) 8) K) (by rw [nI_clamp (by omega)]) (yw_mask (yw_e143 hA h))⟩))
theorem fl_3 (hb : b < 4) (hC : C ≤ 32) (hln : nv_ln L C ln) (hp : p < L b) (ea : pg ((b * 32 + p) * 4 + 1) = nI A) (eB : pg ((b * 32 + p) * 4 + 2) = nI B) (eK : pg ((b * 32 + p) * 4 + 3) = nI K) (hS : nr_S (b + 1) L so rc sn si sf) (h1 : rc (b * 33 + p) = 1) (eo : pg ((b * 32 + p) * 4) = nI 3) (hA : A < 8) (hB : B < 8) (hK : K < 4) : nf_fl b p cc hc md sel cs ec ep ms oc fc uc fk pn pi ln pg so ed he fr ou rc sn si sf tn ti tf := by
  obtain ⟨hlb, hl2⟩ := hln b hb
  have hE0 : nr_er (na_ld so ed ((b * 33 + p) * 8) 8) (na_ld sn tn ((b * 33 + p) * 8) 8) (na_ld si ti ((b * 33 + p) * 8) 8) (na_ld sf tf ((b * 33 + p) * 8) 8) := nr_ldE (hS b (by omega) p (by omega)) h1
  obtain ⟨c, hcx⟩ := hE0 B hB
  obtain ⟨n, hn⟩ : ∃ n : Int32, n = if fk K = 0 then 0 else if ((na_ld so ed ((b * 33 + p) * 8) 8) B &&& ((8 : Int32) <<< (nI K &&& 31))) = 0 then 1 else 0 := ⟨_, rfl⟩
  obtain ⟨i, hi⟩ : ∃ i : Int32, i = if ((na_ld so ed ((b * 33 + p) * 8) 8) B &&& 6) / 2 = 0 then 0 else 2 := ⟨_, rfl⟩
  have hn2 : n = 0 ∨ n = 1 := by
    rw [hn]
    split
    · exact Or.inl rfl
    · split
      · exact Or.inr rfl
      · exact Or.inl rfl
  have hi2 : i = 0 ∨ i = 1 ∨ i = 2 := by
    rw [hi]
    split
    · exact Or.inl rfl
    · exact Or.inr (Or.inr rfl)
  obtain ⟨d, hd⟩ := ne_mkc hn2 hi2
  refine fl_core (o := 3) (T := p + 1) (t := p + 1) (ed' := upd (na_ld so ed ((b * 33 + p) * 8) 8) A (n + 2 * i)) (tn' := upd (na_ld sn tn ((b * 33 + p) * 8) 8) A n) (ti' := upd (na_ld si ti ((b * 33 + p) * 8) 8) A i) (tf' := upd (na_ld sf tf ((b * 33 + p) * 8) 8) A 0) hb hC hln hp eo ea eB eK hS (by omega) (by omega) (by omega) (nr_set hE0 hd) (by omega) (by split <;> omega) (by simp) ?_ ?_
  · intro post h
    unfold wpX_changeEdge
    exact br_f (by decide) (br_f (by decide) (br_f (by decide) (br_f (by decide) (br_f (by decide) (br_t (by decide) (xw_cget hA hB hK hn hi h))))))
  · intro yec yep ych post h
    unfold wpY_edges
    refine nm_r (nn_ct b p) ⟨vp_in_nI (by omega) (by decide), nm_r (e' := nI 3) (by rw [nI_clamp (by omega)]; exact eo) ⟨pk_in _ 512 (by omega) (nn_a1 _) (by decide), nm_r (e' := nI A) (by rw [nn_a1, nI_clamp (by omega)]; exact ea) ⟨pk_in _ 512 (by omega) (nn_a2 _) (by decide), nm_r (e' := nI B) (by rw [nn_a2, nI_clamp (by omega)]; exact eB) ⟨pk_in _ 512 (by omega) (nn_a3 _) (by decide), nm_r (e' := nI K) (by rw [nn_a3, nI_clamp (by omega)]; exact eK) ⟨vp_in_nI hb (by decide), nm_r (e' := nI (L b)) (by rw [nI_clamp (by omega)]; exact hlb) (nm_r (nn_a1 p) ?_)⟩⟩⟩⟩⟩
    refine yw_load hb (by omega) ?_
    have G234 : ∀ z, z = i → wY_edges_234 post (nI b) (nI A) (nI (p + 1)) n z cc hc md sel yec yep cs ms oc uc fc ych fk pn pi ln pg rc sn si sf (na_ld sn tn ((b * 33 + p) * 8) 8) (na_ld si ti ((b * 33 + p) * 8) 8) (na_ld sf tf ((b * 33 + p) * 8) 8) he ou fr := by
      rintro z rfl
      unfold wY_edges_234
      exact yw_set hA h
    have G217 : ∀ z, z = n → wY_edges_217 post (nI b) (nI A) (nI B) (nI (p + 1)) z cc hc md sel yec yep cs ms oc uc fc ych fk pn pi ln pg rc sn si sf (na_ld sn tn ((b * 33 + p) * 8) 8) (na_ld si ti ((b * 33 + p) * 8) 8) (na_ld sf tf ((b * 33 + p) * 8) 8) he ou fr := by
      rintro z rfl
      unfold wY_edges_217
      rw [nI_clamp (n := B) (by omega)]
      refine ⟨vp_in_nI hB (by decide), br_c (fun e => G234 _ ?_) (fun e => G234 _ ?_)⟩
      · rw [hi, (ne_ini hcx).1, if_pos e]
      · rw [hi, (ne_ini hcx).1, if_neg e]
    refine br_f (by decide) (br_f (by decide) (br_f (by decide) (br_t (by decide) ⟨vp_in_nI hK (by decide), ?_⟩)))
    rw [nI_clamp (n := K) (by omega), nI_clamp (n := B) (by omega)]
    refine br_c (fun e => ?_) (fun e => ⟨vp_in_nI hB (by decide), br_c (fun e2 => ?_) (fun e2 => ?_)⟩)
    · unfold wY_edges_212
      exact G217 0 (by rw [hn, if_pos e])
    · exact G217 1 (by rw [hn, if_neg e, if_pos ((ne_kn hK hcx).mpr e2)])
    · unfold wY_edges_212
      exact G217 0 (by rw [hn, if_neg e, if_neg (fun z => e2 ((ne_kn hK hcx).mp z))])
theorem fl_4a (hb : b < 4) (hC : C ≤ 32) (hln : nv_ln L C ln) (hp : p < L b) (ea : pg ((b * 32 + p) * 4 + 1) = nI A) (eB : pg ((b * 32 + p) * 4 + 2) = nI B) (eK : pg ((b * 32 + p) * 4 + 3) = nI K) (hS : nr_S (b + 1) L so rc sn si sf) (h1 : rc (b * 33 + p) = 1) (eo : pg ((b * 32 + p) * 4) = nI 4) (hA : A < 8) (hB : B < 4) (hK : K < 8) (e : (na_ld sn tn ((b * 33 + p) * 8) 8) K = 0) : nf_fl b p cc hc md sel cs ec ep ms oc fc uc fk pn pi ln pg so ed he fr ou rc sn si sf tn ti tf := by
  obtain ⟨hlb, hl2⟩ := hln b hb
  have hE0 : nr_er (na_ld so ed ((b * 33 + p) * 8) 8) (na_ld sn tn ((b * 33 + p) * 8) 8) (na_ld si ti ((b * 33 + p) * 8) 8) (na_ld sf tf ((b * 33 + p) * 8) 8) := nr_ldE (hS b (by omega) p (by omega)) h1
  obtain ⟨c, hcx⟩ := hE0 K hK
  obtain ⟨cA, hcA⟩ := hE0 A hA
  refine fl_core (o := 4) (T := p + 1) (t := p + 1) (ed' := upd (na_ld so ed ((b * 33 + p) * 8) 8) A ((na_ld so ed ((b * 33 + p) * 8) 8) A ||| ((8 : Int32) <<< (nI B &&& 31)))) (tn' := (na_ld sn tn ((b * 33 + p) * 8) 8)) (ti' := (na_ld si ti ((b * 33 + p) * 8) 8)) (tf' := upd (na_ld sf tf ((b * 33 + p) * 8) 8) A ((na_ld sf tf ((b * 33 + p) * 8) 8) A ||| ((1 : Int32) <<< (nI B &&& 31)))) hb hC hln hp eo ea eB eK hS (by omega) (by omega) (by omega) (nr_setF hE0 (ne_put hB hcA)) (by omega) (by split <;> omega) (by simp) ?_ ?_
  · intro post h
    unfold wpX_changeEdge
    exact br_f (by decide) (br_f (by decide) (br_f (by decide) (br_f (by decide) (br_f (by decide) (br_f (by decide) (br_t (by decide) (xw_cput hA hK (fun _ => h) (fun z => absurd ((ne_nu hcx).1.trans e) z))))))))
  · intro yec yep ych post h
    unfold wpY_edges
    refine nm_r (nn_ct b p) ⟨vp_in_nI (by omega) (by decide), nm_r (e' := nI 4) (by rw [nI_clamp (by omega)]; exact eo) ⟨pk_in _ 512 (by omega) (nn_a1 _) (by decide), nm_r (e' := nI A) (by rw [nn_a1, nI_clamp (by omega)]; exact ea) ⟨pk_in _ 512 (by omega) (nn_a2 _) (by decide), nm_r (e' := nI B) (by rw [nn_a2, nI_clamp (by omega)]; exact eB) ⟨pk_in _ 512 (by omega) (nn_a3 _) (by decide), nm_r (e' := nI K) (by rw [nn_a3, nI_clamp (by omega)]; exact eK) ⟨vp_in_nI hb (by decide), nm_r (e' := nI (L b)) (by rw [nI_clamp (by omega)]; exact hlb) (nm_r (nn_a1 p) ?_)⟩⟩⟩⟩⟩
    refine yw_load hb (by omega) ?_
    refine br_f (by decide) (br_f (by decide) (br_f (by decide) (br_f (by decide) (br_t (by decide) ⟨vp_in_nI hK (by decide), ?_⟩))))
    rw [nI_clamp (n := K) (by omega), nI_clamp (n := A) (by omega)]
    exact br_t e ⟨vp_in_nI hA (by decide), vp_in_nI hA (by decide), nm_e h⟩
theorem fl_4b (hb : b < 4) (hC : C ≤ 32) (hln : nv_ln L C ln) (hp : p < L b) (ea : pg ((b * 32 + p) * 4 + 1) = nI A) (eB : pg ((b * 32 + p) * 4 + 2) = nI B) (eK : pg ((b * 32 + p) * 4 + 3) = nI K) (hS : nr_S (b + 1) L so rc sn si sf) (h1 : rc (b * 33 + p) = 1) (eo : pg ((b * 32 + p) * 4) = nI 4) (hA : A < 8) (hB : B < 4) (hK : K < 8) (e : ¬ (na_ld sn tn ((b * 33 + p) * 8) 8) K = 0) : nf_fl b p cc hc md sel cs ec ep ms oc fc uc fk pn pi ln pg so ed he fr ou rc sn si sf tn ti tf := by
  obtain ⟨hlb, hl2⟩ := hln b hb
  have hE0 : nr_er (na_ld so ed ((b * 33 + p) * 8) 8) (na_ld sn tn ((b * 33 + p) * 8) 8) (na_ld si ti ((b * 33 + p) * 8) 8) (na_ld sf tf ((b * 33 + p) * 8) 8) := nr_ldE (hS b (by omega) p (by omega)) h1
  obtain ⟨c, hcx⟩ := hE0 K hK
  refine fl_core (o := 4) (T := p + 1) (t := p + 1) (ed' := na_mk (na_ld so ed ((b * 33 + p) * 8) 8) (((8 : Int32) <<< (nI B &&& 31)) ^^^ (-1)) 8) (tn' := (na_ld sn tn ((b * 33 + p) * 8) 8)) (ti' := (na_ld si ti ((b * 33 + p) * 8) 8)) (tf' := na_mk (na_ld sf tf ((b * 33 + p) * 8) 8) (((1 : Int32) <<< (nI B &&& 31)) ^^^ (-1)) 8) hb hC hln hp eo ea eB eK hS (by omega) (by omega) (by omega) (ne_fgt hB hE0) (by omega) (by split <;> omega) (by simp) ?_ ?_
  · intro post h
    unfold wpX_changeEdge
    exact br_f (by decide) (br_f (by decide) (br_f (by decide) (br_f (by decide) (br_f (by decide) (br_f (by decide) (br_t (by decide) (xw_cput hA hK (fun z => absurd ((ne_nu hcx).1.symm.trans z) e) (fun _ => h))))))))
  · intro yec yep ych post h
    unfold wpY_edges
    refine nm_r (nn_ct b p) ⟨vp_in_nI (by omega) (by decide), nm_r (e' := nI 4) (by rw [nI_clamp (by omega)]; exact eo) ⟨pk_in _ 512 (by omega) (nn_a1 _) (by decide), nm_r (e' := nI A) (by rw [nn_a1, nI_clamp (by omega)]; exact ea) ⟨pk_in _ 512 (by omega) (nn_a2 _) (by decide), nm_r (e' := nI B) (by rw [nn_a2, nI_clamp (by omega)]; exact eB) ⟨pk_in _ 512 (by omega) (nn_a3 _) (by decide), nm_r (e' := nI K) (by rw [nn_a3, nI_clamp (by omega)]; exact eK) ⟨vp_in_nI hb (by decide), nm_r (e' := nI (L b)) (by rw [nI_clamp (by omega)]; exact hlb) (nm_r (nn_a1 p) ?_)⟩⟩⟩⟩⟩
    refine yw_load hb (by omega) ?_
    refine br_f (by decide) (br_f (by decide) (br_f (by decide) (br_f (by decide) (br_t (by decide) ⟨vp_in_nI hK (by decide), ?_⟩))))
    rw [nI_clamp (n := K) (by omega)]
    exact br_f e (yw_e286 h)
theorem fl_7 (hb : b < 4) (hC : C ≤ 32) (hln : nv_ln L C ln) (hp : p < L b) (ea : pg ((b * 32 + p) * 4 + 1) = nI A) (eB : pg ((b * 32 + p) * 4 + 2) = nI B) (eK : pg ((b * 32 + p) * 4 + 3) = nI K) (hS : nr_S (b + 1) L so rc sn si sf) (h1 : rc (b * 33 + p) = 1) (eo : pg ((b * 32 + p) * 4) = nI 7) (hA : A < 33) : nf_fl b p cc hc md sel cs ec ep ms oc fc uc fk pn pi ln pg so ed he fr ou rc sn si sf tn ti tf := by
  obtain ⟨hlb, hl2⟩ := hln b hb
  have hE0 : nr_er (na_ld so ed ((b * 33 + p) * 8) 8) (na_ld sn tn ((b * 33 + p) * 8) 8) (na_ld si ti ((b * 33 + p) * 8) 8) (na_ld sf tf ((b * 33 + p) * 8) 8) := nr_ldE (hS b (by omega) p (by omega)) h1
  refine fl_core (o := 7) (T := A) (t := if L b ≤ A then L b else A) (ed' := (na_ld so ed ((b * 33 + p) * 8) 8)) (tn' := (na_ld sn tn ((b * 33 + p) * 8) 8)) (ti' := (na_ld si ti ((b * 33 + p) * 8) 8)) (tf' := (na_ld sf tf ((b * 33 + p) * 8) 8)) hb hC hln hp eo ea eB eK hS (by omega) (by omega) (by omega) hE0 (by omega) rfl (by simp) ?_ ?_
  · intro post h
    unfold wpX_changeEdge
    exact br_f (by decide) (br_t (by decide) h)
  · intro yec yep ych post h
    unfold wpY_edges
    refine nm_r (nn_ct b p) ⟨vp_in_nI (by omega) (by decide), nm_r (e' := nI 7) (by rw [nI_clamp (by omega)]; exact eo) ⟨pk_in _ 512 (by omega) (nn_a1 _) (by decide), nm_r (e' := nI A) (by rw [nn_a1, nI_clamp (by omega)]; exact ea) ⟨pk_in _ 512 (by omega) (nn_a2 _) (by decide), nm_r (e' := nI B) (by rw [nn_a2, nI_clamp (by omega)]; exact eB) ⟨pk_in _ 512 (by omega) (nn_a3 _) (by decide), nm_r (e' := nI K) (by rw [nn_a3, nI_clamp (by omega)]; exact eK) ⟨vp_in_nI hb (by decide), nm_r (e' := nI (L b)) (by rw [nI_clamp (by omega)]; exact hlb) (nm_r (nn_a1 p) ?_)⟩⟩⟩⟩⟩
    refine yw_load hb (by omega) ?_
    refine br_f (by decide) (br_f (by decide) (br_f (by decide) (br_f (by decide) (br_f (by decide) (br_f (by decide) (br_f (by decide) (br_t (by decide) (pk_lt A (L b) (fun e => ?_) (fun e => ?_)))))))))
    · rw [if_neg (by omega)] at h
      exact h
    · rw [if_pos e] at h
      exact h
theorem fl_8 (hb : b < 4) (hC : C ≤ 32) (hln : nv_ln L C ln) (hp : p < L b) (ea : pg ((b * 32 + p) * 4 + 1) = nI A) (eB : pg ((b * 32 + p) * 4 + 2) = nI B) (eK : pg ((b * 32 + p) * 4 + 3) = nI K) (hS : nr_S (b + 1) L so rc sn si sf) (h1 : rc (b * 33 + p) = 1) (eo : pg ((b * 32 + p) * 4) = nI 8)  : nf_fl b p cc hc md sel cs ec ep ms oc fc uc fk pn pi ln pg so ed he fr ou rc sn si sf tn ti tf := by
  obtain ⟨hlb, hl2⟩ := hln b hb
  have hE0 : nr_er (na_ld so ed ((b * 33 + p) * 8) 8) (na_ld sn tn ((b * 33 + p) * 8) 8) (na_ld si ti ((b * 33 + p) * 8) 8) (na_ld sf tf ((b * 33 + p) * 8) 8) := nr_ldE (hS b (by omega) p (by omega)) h1
  refine fl_core (o := 8) (T := L b) (t := L b) (ed' := (na_ld so ed ((b * 33 + p) * 8) 8)) (tn' := (na_ld sn tn ((b * 33 + p) * 8) 8)) (ti' := (na_ld si ti ((b * 33 + p) * 8) 8)) (tf' := (na_ld sf tf ((b * 33 + p) * 8) 8)) hb hC hln hp eo ea eB eK hS (by omega) (by omega) (by omega) hE0 (by omega) (by simp) (by simp [hlb]) ?_ ?_
  · intro post h
    unfold wpX_changeEdge
    exact br_f (by decide) (br_t (by decide) h)
  · intro yec yep ych post h
    unfold wpY_edges
    refine nm_r (nn_ct b p) ⟨vp_in_nI (by omega) (by decide), nm_r (e' := nI 8) (by rw [nI_clamp (by omega)]; exact eo) ⟨pk_in _ 512 (by omega) (nn_a1 _) (by decide), nm_r (e' := nI A) (by rw [nn_a1, nI_clamp (by omega)]; exact ea) ⟨pk_in _ 512 (by omega) (nn_a2 _) (by decide), nm_r (e' := nI B) (by rw [nn_a2, nI_clamp (by omega)]; exact eB) ⟨pk_in _ 512 (by omega) (nn_a3 _) (by decide), nm_r (e' := nI K) (by rw [nn_a3, nI_clamp (by omega)]; exact eK) ⟨vp_in_nI hb (by decide), nm_r (e' := nI (L b)) (by rw [nI_clamp (by omega)]; exact hlb) (nm_r (nn_a1 p) ?_)⟩⟩⟩⟩⟩
    refine yw_load hb (by omega) ?_
    exact br_f (by decide) (br_f (by decide) (br_f (by decide) (br_f (by decide) (br_f (by decide) (br_f (by decide) (br_f (by decide) (br_f (by decide) (br_t (by decide) h))))))))
theorem fl_9 (hb : b < 4) (hC : C ≤ 32) (hln : nv_ln L C ln) (hp : p < L b) (ea : pg ((b * 32 + p) * 4 + 1) = nI A) (eB : pg ((b * 32 + p) * 4 + 2) = nI B) (eK : pg ((b * 32 + p) * 4 + 3) = nI K) (hS : nr_S (b + 1) L so rc sn si sf) (h1 : rc (b * 33 + p) = 1) (eo : pg ((b * 32 + p) * 4) = nI 9)  : nf_fl b p cc hc md sel cs ec ep ms oc fc uc fk pn pi ln pg so ed he fr ou rc sn si sf tn ti tf := by
  obtain ⟨hlb, hl2⟩ := hln b hb
  have hE0 : nr_er (na_ld so ed ((b * 33 + p) * 8) 8) (na_ld sn tn ((b * 33 + p) * 8) 8) (na_ld si ti ((b * 33 + p) * 8) 8) (na_ld sf tf ((b * 33 + p) * 8) 8) := nr_ldE (hS b (by omega) p (by omega)) h1
  refine fl_core (o := 9) (T := p + 1) (t := p + 1) (ed' := (na_ld so ed ((b * 33 + p) * 8) 8)) (tn' := (na_ld sn tn ((b * 33 + p) * 8) 8)) (ti' := (na_ld si ti ((b * 33 + p) * 8) 8)) (tf' := (na_ld sf tf ((b * 33 + p) * 8) 8)) hb hC hln hp eo ea eB eK hS (by omega) (by omega) (by omega) hE0 (by omega) (by split <;> omega) (by simp) ?_ ?_
  · intro post h
    unfold wpX_changeEdge
    exact br_f (by decide) (br_t (by decide) h)
  · intro yec yep ych post h
    unfold wpY_edges
    refine nm_r (nn_ct b p) ⟨vp_in_nI (by omega) (by decide), nm_r (e' := nI 9) (by rw [nI_clamp (by omega)]; exact eo) ⟨pk_in _ 512 (by omega) (nn_a1 _) (by decide), nm_r (e' := nI A) (by rw [nn_a1, nI_clamp (by omega)]; exact ea) ⟨pk_in _ 512 (by omega) (nn_a2 _) (by decide), nm_r (e' := nI B) (by rw [nn_a2, nI_clamp (by omega)]; exact eB) ⟨pk_in _ 512 (by omega) (nn_a3 _) (by decide), nm_r (e' := nI K) (by rw [nn_a3, nI_clamp (by omega)]; exact eK) ⟨vp_in_nI hb (by decide), nm_r (e' := nI (L b)) (by rw [nI_clamp (by omega)]; exact hlb) (nm_r (nn_a1 p) ?_)⟩⟩⟩⟩⟩
    refine yw_load hb (by omega) ?_
    exact br_f (by decide) (br_f (by decide) (br_f (by decide) (br_f (by decide) (br_f (by decide) (br_f (by decide) (br_f (by decide) (br_f (by decide) (br_f (by decide) (h)))))))))
theorem ft_both {TN tN TZ tZ : Nat} (hb : b < 4) (hC : C ≤ 32) (hln : nv_ln L C ln) (hp : p < L b) (ea : pg ((b * 32 + p) * 4 + 1) = nI A) (eB : pg ((b * 32 + p) * 4 + 2) = nI B) (eK : pg ((b * 32 + p) * 4 + 3) = nI K) (hS : nr_S (b + 1) L so rc sn si sf) (h1 : rc (b * 33 + p) = 1) (hA : A < 8) (hTN : TN < 2 ^ 30) (htN : tN = if L b ≤ TN then L b else TN) (hTZ : TZ < 2 ^ 30) (htZ : tZ = if L b ≤ TZ then L b else TZ) : ∃ (r : Int32) (so' ed' rc' sn' si' sf' tn' ti' tf' : Nat → Int32), nr_go b so rc sn si sf so' rc' sn' si' sf' r ∧ (∀ post : Int32 → SX → Prop, post r (cc, hc, md, sel, cs, ec, ep, ms, oc, fc, uc, fk, pn, pi, ln, pg, so', ed', he, fr, ou) → wpX_flowTest post (cc, hc, md, sel, cs, ec, ep, ms, oc, fc, uc, fk, pn, pi, ln, pg, so, (na_ld so ed ((b * 33 + p) * 8) 8), he, fr, ou) (nI b) (nI A) (nI TZ) (nI TN)) ∧ (∀ (yec yep ych m : Int32) (post : SY → Prop), (m = if (na_ld sn tn ((b * 33 + p) * 8) 8) A = 1 then 1 else 0) → post (cc, hc, md, sel, yec, yep, cs, ms, oc, uc, fc, (if r = 0 then ych else 1), fk, pn, pi, ln, pg, rc', sn', si', sf', tn', ti', tf', he, ou, fr) → wY_edges_403 post (nI b) (nI p) (nI A) m (nI tN) (nI tZ) cc hc md sel yec yep cs ms oc uc fc ych fk pn pi ln pg rc sn si sf (na_ld sn tn ((b * 33 + p) * 8) 8) (na_ld si ti ((b * 33 + p) * 8) 8) (na_ld sf tf ((b * 33 + p) * 8) 8) he ou fr) := by
  obtain ⟨hlb, hl2⟩ := hln b hb
  have hE0 : nr_er (na_ld so ed ((b * 33 + p) * 8) 8) (na_ld sn tn ((b * 33 + p) * 8) 8) (na_ld si ti ((b * 33 + p) * 8) 8) (na_ld sf tf ((b * 33 + p) * 8) 8) := nr_ldE (hS b (by omega) p (by omega)) h1
  obtain ⟨c, hcx⟩ := hE0 A hA
  have hN : tN ≤ L b := by
    subst htN
    split <;> omega
  have hZ : tZ ≤ L b := by
    subst htZ
    split <;> omega
  have vA : vp_in (nI A) 8 := vp_in_nI hA (by decide)
  have cA : (nI A).toNatClampNeg = A := nI_clamp (by omega)
  have hE1 : nr_er (upd (na_ld so ed ((b * 33 + p) * 8) 8) A ((na_ld so ed ((b * 33 + p) * 8) 8) A &&& 126)) (upd (na_ld sn tn ((b * 33 + p) * 8) 8) A 0) (na_ld si ti ((b * 33 + p) * 8) 8) (na_ld sf tf ((b * 33 + p) * 8) 8) := by
    intro l hl
    by_cases d : l = A
    · subst d
      rw [pk_us, pk_us]
      exact ⟨_, nc_cr0 hcx⟩
    · rw [pk_un d, pk_un d]
      exact hE0 l hl
  obtain ⟨r1, so1, rc1, sn1, si1, sf1, hg1, hk1, hX1, hY1⟩ := ar_both (ed := upd (na_ld so ed ((b * 33 + p) * 8) 8) A ((na_ld so ed ((b * 33 + p) * 8) 8) A &&& 126)) (tn := upd (na_ld sn tn ((b * 33 + p) * 8) 8) A 0) (ti := (na_ld si ti ((b * 33 + p) * 8) 8)) (tf := (na_ld sf tf ((b * 33 + p) * 8) 8)) (cc := cc) (hc := hc) (md := md) (sel := sel) (cs := cs) (ec := ec) (ep := ep) (ms := ms) (oc := oc) (fc := fc) (uc := uc) (fk := fk) (pn := pn) (pi := pi) (pg := pg) (he := he) (fr := fr) (ou := ou) hb hC hln hTN htN hE1 (hS b (by omega) tN hN)
  by_cases e : (na_ld sn tn ((b * 33 + p) * 8) 8) A = 1
  · have hS1 : nr_S (b + 1) L so1 rc1 sn1 si1 sf1 := fun b' hb' p' hp' => hg1.2.1 _ (hS b' hb' p' hp')
    have hE2 : nr_er (upd (upd (na_ld so ed ((b * 33 + p) * 8) 8) A ((na_ld so ed ((b * 33 + p) * 8) 8) A &&& 126)) A 1) (upd (na_ld sn1 (upd (na_ld sn tn ((b * 33 + p) * 8) 8) A 0) ((b * 33 + p) * 8) 8) A 1) (upd (na_ld si1 (na_ld si ti ((b * 33 + p) * 8) 8) ((b * 33 + p) * 8) 8) A 0) (upd (na_ld sf1 (na_ld sf tf ((b * 33 + p) * 8) 8) ((b * 33 + p) * 8) 8) A 0) := by
      intro l hl
      by_cases d : l = A
      · subst d
        rw [pk_us, pk_us, pk_us, pk_us]
        exact ⟨1, nr_c1⟩
      · have k := hk1 (b * 33 + p) l hl h1 (fun z => by
          rw [pk_un d, na_ldI hl, na_ldI hl, na_ldI hl, ← z]
          exact ⟨rfl, rfl, rfl⟩)
        rw [pk_un d, pk_un d, pk_un d, pk_un d, pk_un d, na_ldI (s := sn1) hl, na_ldI (s := si1) hl, na_ldI (s := sf1) hl, k.1, k.2.1, k.2.2]
        have k2 := hE0 l hl
        rw [na_ldI (s := sn) hl, na_ldI (s := si) hl, na_ldI (s := sf) hl] at k2
        exact k2
    obtain ⟨r2, so2, rc2, sn2, si2, sf2, hg2, _, hX2, hY2⟩ := ar_both (so := so1) (rc := rc1) (sn := sn1) (si := si1) (sf := sf1) (ed := upd (upd (na_ld so ed ((b * 33 + p) * 8) 8) A ((na_ld so ed ((b * 33 + p) * 8) 8) A &&& 126)) A 1) (tn := upd (na_ld sn1 (upd (na_ld sn tn ((b * 33 + p) * 8) 8) A 0) ((b * 33 + p) * 8) 8) A 1) (ti := upd (na_ld si1 (na_ld si ti ((b * 33 + p) * 8) 8) ((b * 33 + p) * 8) 8) A 0) (tf := upd (na_ld sf1 (na_ld sf tf ((b * 33 + p) * 8) 8) ((b * 33 + p) * 8) 8) A 0) (cc := cc) (hc := hc) (md := md) (sel := sel) (cs := cs) (ec := ec) (ep := ep) (ms := ms) (oc := oc) (fc := fc) (uc := uc) (fk := fk) (pn := pn) (pi := pi) (pg := pg) (he := he) (fr := fr) (ou := ou) hb hC hln hTZ htZ hE2 (hS1 b (by omega) tZ hZ)
    refine ⟨if r2 = 0 then r1 else 1, so2, upd (upd (na_ld so ed ((b * 33 + p) * 8) 8) A ((na_ld so ed ((b * 33 + p) * 8) 8) A &&& 126)) A 1, rc2, sn2, si2, sf2, upd (na_ld sn1 (upd (na_ld sn tn ((b * 33 + p) * 8) 8) A 0) ((b * 33 + p) * 8) 8) A 1, upd (na_ld si1 (na_ld si ti ((b * 33 + p) * 8) 8) ((b * 33 + p) * 8) 8) A 0, upd (na_ld sf1 (na_ld sf tf ((b * 33 + p) * 8) 8) ((b * 33 + p) * 8) 8) A 0, nr_goT hg1 hg2, fun post h => ?_, fun yec yep ych m post hm h => ?_⟩
    · unfold wpX_flowTest wpX_nullnessOf
      refine ⟨vA, ?_⟩
      rw [cA]
      refine br_t ((ne_nu hcx).1.trans e) ?_
      unfold wX_flowTest_18
      rw [cA]
      refine ⟨vA, vA, nm_e (hX1 _ ?_)⟩
      refine br_f (by decide) ⟨vA, nm_e (hX2 _ ?_)⟩
      refine br_c (fun z => ⟨nn_b hg1.1, ?_⟩) (fun z => ?_)
      · rw [if_pos z] at h
        exact h
      · rw [if_neg z] at h
        exact h
    · rw [if_pos e] at hm
      subst hm
      have kk : (if (if r2 = 0 then r1 else 1) = 0 then ych else 1) = if r2 = 0 then (if r1 = 0 then ych else 1) else 1 := by
        by_cases z : r2 = 0
        · rw [if_pos z, if_pos z]
        · rw [if_neg z, if_neg z, if_neg (by decide)]
      rw [kk] at h
      unfold wY_edges_403
      rw [cA]
      refine ⟨vA, nm_e (hY1 yec yep ych _ ?_)⟩
      refine br_f (by decide) (yw_load hb (by omega) (yw_set hA (hY2 yec yep _ _ ?_)))
      exact h
  · refine ⟨r1, so1, upd (na_ld so ed ((b * 33 + p) * 8) 8) A ((na_ld so ed ((b * 33 + p) * 8) 8) A &&& 126), rc1, sn1, si1, sf1, upd (na_ld sn tn ((b * 33 + p) * 8) 8) A 0, (na_ld si ti ((b * 33 + p) * 8) 8), (na_ld sf tf ((b * 33 + p) * 8) 8), hg1, fun post h => ?_, fun yec yep ych m post hm h => ?_⟩
    · unfold wpX_flowTest wpX_nullnessOf
      refine ⟨vA, ?_⟩
      rw [cA]
      refine br_f (fun z => e ((ne_nu hcx).1.symm.trans z)) ?_
      unfold wX_flowTest_18
      rw [cA]
      exact ⟨vA, vA, nm_e (hX1 _ (br_t rfl ⟨nn_b hg1.1, h⟩))⟩
    · rw [if_neg e] at hm
      subst hm
      unfold wY_edges_403
      rw [cA]
      exact ⟨vA, nm_e (hY1 yec yep ych _ (br_t rfl h))⟩
theorem fl_5 (hb : b < 4) (hC : C ≤ 32) (hln : nv_ln L C ln) (hp : p < L b) (ea : pg ((b * 32 + p) * 4 + 1) = nI A) (eB : pg ((b * 32 + p) * 4 + 2) = nI B) (eK : pg ((b * 32 + p) * 4 + 3) = nI K) (hS : nr_S (b + 1) L so rc sn si sf) (h1 : rc (b * 33 + p) = 1) (eo : pg ((b * 32 + p) * 4) = nI 5) (hA : A < 8) (hB : B < 33) : nf_fl b p cc hc md sel cs ec ep ms oc fc uc fk pn pi ln pg so ed he fr ou rc sn si sf tn ti tf := by
  obtain ⟨hlb, hl2⟩ := hln b hb
  have hE0 : nr_er (na_ld so ed ((b * 33 + p) * 8) 8) (na_ld sn tn ((b * 33 + p) * 8) 8) (na_ld si ti ((b * 33 + p) * 8) 8) (na_ld sf tf ((b * 33 + p) * 8) 8) := nr_ldE (hS b (by omega) p (by omega)) h1
  obtain ⟨r, so', ed', rc', sn', si', sf', tn', ti', tf', hg, hX, hY⟩ := ft_both (TN := p + 1) (tN := p + 1) (TZ := B) (tZ := if L b ≤ B then L b else B) (ed := ed) (tn := tn) (ti := ti) (tf := tf) (cc := cc) (hc := hc) (md := md) (sel := sel) (cs := cs) (ec := ec) (ep := ep) (ms := ms) (oc := oc) (fc := fc) (uc := uc) (fk := fk) (pn := pn) (pi := pi) (pg := pg) (he := he) (fr := fr) (ou := ou) hb hC hln hp ea eB eK hS h1 hA (by omega) (by split <;> omega) (by omega) rfl
  refine ⟨r, so', ed', rc', sn', si', sf', tn', ti', tf', hg, fun post h => ?_, fun yec yep ych post h => ?_⟩
  · unfold wpX_flow wpX_codeAt
    rw [nn_ct]
    refine ⟨vp_in_nI (by omega) (by decide), nm_r (e' := nI 5) (by rw [nI_clamp (by omega)]; exact eo) ⟨pk_in _ 512 (by omega) (nn_a1 _) (by decide), nm_r (e' := nI A) (by rw [nn_a1, nI_clamp (by omega)]; exact ea) ⟨pk_in _ 512 (by omega) (nn_a2 _) (by decide), nm_r (e' := nI B) (by rw [nn_a2, nI_clamp (by omega)]; exact eB) ⟨pk_in _ 512 (by omega) (nn_a3 _) (by decide), nm_r (e' := nI K) (by rw [nn_a3, nI_clamp (by omega)]; exact eK) ?_⟩⟩⟩⟩
    refine xw_load hb (by omega) (br_t (by decide) ?_)
    rw [nn_a1 p]
    exact hX _ ⟨nn_b hg.1, h⟩
  · unfold wpY_edges
    refine nm_r (nn_ct b p) ⟨vp_in_nI (by omega) (by decide), nm_r (e' := nI 5) (by rw [nI_clamp (by omega)]; exact eo) ⟨pk_in _ 512 (by omega) (nn_a1 _) (by decide), nm_r (e' := nI A) (by rw [nn_a1, nI_clamp (by omega)]; exact ea) ⟨pk_in _ 512 (by omega) (nn_a2 _) (by decide), nm_r (e' := nI B) (by rw [nn_a2, nI_clamp (by omega)]; exact eB) ⟨pk_in _ 512 (by omega) (nn_a3 _) (by decide), nm_r (e' := nI K) (by rw [nn_a3, nI_clamp (by omega)]; exact eK) ⟨vp_in_nI hb (by decide), nm_r (e' := nI (L b)) (by rw [nI_clamp (by omega)]; exact hlb) (nm_r (nn_a1 p) ?_)⟩⟩⟩⟩⟩
    refine yw_load hb (by omega) (br_f (by decide) (br_f (by decide) (br_f (by decide) (br_f (by decide) (br_f (by decide) (br_t (by decide) ?_))))))
    have G : ∀ m : Int32, (m = if (na_ld sn tn ((b * 33 + p) * 8) 8) A = 1 then 1 else 0) → wY_edges_347 post (nI b) (nI p) (nI 5) (nI A) (nI B) (nI (L b)) m cc hc md sel yec yep cs ms oc uc fc ych fk pn pi ln pg rc sn si sf (na_ld sn tn ((b * 33 + p) * 8) 8) (na_ld si ti ((b * 33 + p) * 8) 8) (na_ld sf tf ((b * 33 + p) * 8) 8) he ou fr := by
      intro m hm
      have g := hY yec yep ych m post hm h
      unfold wY_edges_347 wY_edges_375
      rw [nn_a1 p]
      refine br_t (by decide) (br_t (by decide) (pk_lt B (L b) (fun z => ?_) (fun z => ?_)))
      · rw [if_neg (by omega)] at g
        exact g
      · rw [if_pos z] at g
        exact g
    unfold wY_edges_331
    rw [nI_clamp (n := A) (by omega)]
    refine ⟨vp_in_nI hA (by decide), br_c (fun z => G 1 ?_) (fun z => G 0 ?_)⟩
    · rw [if_pos z]
    · rw [if_neg z]
theorem fl_6 (hb : b < 4) (hC : C ≤ 32) (hln : nv_ln L C ln) (hp : p < L b) (ea : pg ((b * 32 + p) * 4 + 1) = nI A) (eB : pg ((b * 32 + p) * 4 + 2) = nI B) (eK : pg ((b * 32 + p) * 4 + 3) = nI K) (hS : nr_S (b + 1) L so rc sn si sf) (h1 : rc (b * 33 + p) = 1) (eo : pg ((b * 32 + p) * 4) = nI 6) (hA : A < 8) (hB : B < 33) : nf_fl b p cc hc md sel cs ec ep ms oc fc uc fk pn pi ln pg so ed he fr ou rc sn si sf tn ti tf := by
  obtain ⟨hlb, hl2⟩ := hln b hb
  have hE0 : nr_er (na_ld so ed ((b * 33 + p) * 8) 8) (na_ld sn tn ((b * 33 + p) * 8) 8) (na_ld si ti ((b * 33 + p) * 8) 8) (na_ld sf tf ((b * 33 + p) * 8) 8) := nr_ldE (hS b (by omega) p (by omega)) h1
  obtain ⟨r, so', ed', rc', sn', si', sf', tn', ti', tf', hg, hX, hY⟩ := ft_both (TZ := p + 1) (tZ := p + 1) (TN := B) (tN := if L b ≤ B then L b else B) (ed := ed) (tn := tn) (ti := ti) (tf := tf) (cc := cc) (hc := hc) (md := md) (sel := sel) (cs := cs) (ec := ec) (ep := ep) (ms := ms) (oc := oc) (fc := fc) (uc := uc) (fk := fk) (pn := pn) (pi := pi) (pg := pg) (he := he) (fr := fr) (ou := ou) hb hC hln hp ea eB eK hS h1 hA (by omega) rfl (by omega) (by split <;> omega)
  refine ⟨r, so', ed', rc', sn', si', sf', tn', ti', tf', hg, fun post h => ?_, fun yec yep ych post h => ?_⟩
  · unfold wpX_flow wpX_codeAt
    rw [nn_ct]
    refine ⟨vp_in_nI (by omega) (by decide), nm_r (e' := nI 6) (by rw [nI_clamp (by omega)]; exact eo) ⟨pk_in _ 512 (by omega) (nn_a1 _) (by decide), nm_r (e' := nI A) (by rw [nn_a1, nI_clamp (by omega)]; exact ea) ⟨pk_in _ 512 (by omega) (nn_a2 _) (by decide), nm_r (e' := nI B) (by rw [nn_a2, nI_clamp (by omega)]; exact eB) ⟨pk_in _ 512 (by omega) (nn_a3 _) (by decide), nm_r (e' := nI K) (by rw [nn_a3, nI_clamp (by omega)]; exact eK) ?_⟩⟩⟩⟩
    refine xw_load hb (by omega) (br_f (by decide) (br_t (by decide) ?_))
    rw [nn_a1 p]
    exact hX _ ⟨nn_b hg.1, h⟩
  · unfold wpY_edges
    refine nm_r (nn_ct b p) ⟨vp_in_nI (by omega) (by decide), nm_r (e' := nI 6) (by rw [nI_clamp (by omega)]; exact eo) ⟨pk_in _ 512 (by omega) (nn_a1 _) (by decide), nm_r (e' := nI A) (by rw [nn_a1, nI_clamp (by omega)]; exact ea) ⟨pk_in _ 512 (by omega) (nn_a2 _) (by decide), nm_r (e' := nI B) (by rw [nn_a2, nI_clamp (by omega)]; exact eB) ⟨pk_in _ 512 (by omega) (nn_a3 _) (by decide), nm_r (e' := nI K) (by rw [nn_a3, nI_clamp (by omega)]; exact eK) ⟨vp_in_nI hb (by decide), nm_r (e' := nI (L b)) (by rw [nI_clamp (by omega)]; exact hlb) (nm_r (nn_a1 p) ?_)⟩⟩⟩⟩⟩
    refine yw_load hb (by omega) (br_f (by decide) (br_f (by decide) (br_f (by decide) (br_f (by decide) (br_f (by decide) (br_f (by decide) (br_t (by decide) ?_)))))))
    have G : ∀ m : Int32, (m = if (na_ld sn tn ((b * 33 + p) * 8) 8) A = 1 then 1 else 0) → wY_edges_347 post (nI b) (nI p) (nI 6) (nI A) (nI B) (nI (L b)) m cc hc md sel yec yep cs ms oc uc fc ych fk pn pi ln pg rc sn si sf (na_ld sn tn ((b * 33 + p) * 8) 8) (na_ld si ti ((b * 33 + p) * 8) 8) (na_ld sf tf ((b * 33 + p) * 8) 8) he ou fr := by
      intro m hm
      have g := hY yec yep ych m post hm h
      unfold wY_edges_347 wY_edges_375
      rw [nn_a1 p]
      refine br_f (by decide) (pk_lt B (L b) (fun z => br_f (by decide) ?_) (fun z => br_f (by decide) ?_))
      · rw [if_neg (by omega)] at g
        exact g
      · rw [if_pos z] at g
        exact g
    unfold wY_edges_331
    rw [nI_clamp (n := A) (by omega)]
    refine ⟨vp_in_nI hA (by decide), br_c (fun z => G 1 ?_) (fun z => G 0 ?_)⟩
    · rw [if_pos z]
    · rw [if_neg z]
theorem fl_both (hb : b < 4) (hC : C ≤ 32) (hde : nv_de fk pn pi) (hln : nv_ln L C ln) (hpg : nv_pg L pg) (hp : p < L b) (hS : nr_S (b + 1) L so rc sn si sf) (h1 : rc (b * 33 + p) = 1) : nf_fl b p cc hc md sel cs ec ep ms oc fc uc fk pn pi ln pg so ed he fr ou rc sn si sf tn ti tf := by
  obtain ⟨o, A, B, K, eo, ea, eB, eK, i1, i2, i3, i4, i5, i6, i7, i8, i9⟩ := hpg b hb p hp
  have ho : o = 0 ∨ o = 1 ∨ o = 2 ∨ o = 3 ∨ o = 4 ∨ o = 5 ∨ o = 6 ∨ o = 7 ∨ o = 8 ∨ o = 9 := by omega
  rcases ho with rfl | rfl | rfl | rfl | rfl | rfl | rfl | rfl | rfl | rfl
  · exact fl_0 hb hC hln hp ea eB eK hS h1 eo (i5 (by omega))
  · exact fl_1 hb hC hln hp ea eB eK hS h1 eo (i5 (by omega)) (i6 (by omega))
  · exact fl_2 hb hC hln hp ea eB eK hS h1 eo (i5 (by omega)) i4 hde.1
  · exact fl_3 hb hC hln hp ea eB eK hS h1 eo (i5 (by omega)) (i6 (by omega)) (i9 rfl)
  · by_cases e : (na_ld sn tn ((b * 33 + p) * 8) 8) K = 0
    · exact fl_4a hb hC hln hp ea eB eK hS h1 eo (i5 (by omega)) (i8 rfl) i4 e
    · exact fl_4b hb hC hln hp ea eB eK hS h1 eo (i5 (by omega)) (i8 rfl) i4 e
  · exact fl_5 hb hC hln hp ea eB eK hS h1 eo (i5 (by omega)) i3
  · exact fl_6 hb hC hln hp ea eB eK hS h1 eo (i5 (by omega)) i3
  · exact fl_7 hb hC hln hp ea eB eK hS h1 eo i2
  · exact fl_8 hb hC hln hp ea eB eK hS h1 eo
  · exact fl_9 hb hC hln hp ea eB eK hS h1 eo
end
