/-! errors, both sides at once -/
section
variable {cc hc md sel cs ec ep ms oc fc uc : Int32} {fk pn pi ln pg so ed he fr ou rc sn si sf tn ti tf : Nat → Int32} {b p : Nat} {o A B K : Nat}
theorem er_2 (hb : b < 4) (hp : p < 33) (hB : B < 4) (hK : K < 8) (hcell : ∀ l, l < 8 → ∃ c, nc_cr (so (((b * 33 + p) * 8) + l)) (sn (((b * 33 + p) * 8) + l)) (si (((b * 33 + p) * 8) + l)) (sf (((b * 33 + p) * 8) + l)) c) : ∃ e : Int32, (∀ post : Int32 → Prop, post e → wX_errorAt_103 post (nI ((b * 33 + p) * 8)) (nI 2) (nI A) (nI B) (nI K) cc hc md sel cs ec ep ms oc fc uc fk pn pi ln pg so ed he fr ou) ∧ (∀ (yec yep ych : Int32) (post : Int32 → Prop), post e → wY_rule_76 post (nI 2) (nI A) (nI B) (nI K) (nI ((b * 33 + p) * 8)) cc hc md sel yec yep cs ms oc uc fc ych fk pn pi ln pg rc sn si sf tn ti tf he ou fr) := by
  obtain ⟨c, hcx⟩ := hcell K hK
  have hN := (ne_nu hcx).1
  have hI := (ne_ini hcx).1
  have vK : vp_in (nI ((b * 33 + p) * 8) + nI K) 1056 := nn_inA (by omega) (by decide)
  have xK : (nI ((b * 33 + p) * 8) + nI K).toNatClampNeg = ((b * 33 + p) * 8) + K := nn_clA (by omega)
  have vB : vp_in (nI B) 4 := vp_in_nI hB (by decide)
  have cB : (nI B).toNatClampNeg = B := nI_clamp (by omega)
  by_cases h1 : pn B = 0
  · by_cases h2 : sn (((b * 33 + p) * 8) + K) = 1
    · exact ⟨2, fun post h => by
        unfold wX_errorAt_103
        refine br_f (by decide) (br_f (by decide) (br_t (by decide) ⟨vK, ?_⟩))
        unfold wpX_newError wpX_nullnessOf wX_newError_19 wpX_initOf
        rw [xK, cB, hN, hI]
        simp [vB, vK, h1, h2, h], fun yec yep ych post h => by
        unfold wY_rule_76
        refine br_t (by decide) ?_
        unfold wY_rule_108
        rw [xK, cB]
        simp [vB, vK, h1, h2, h]⟩
    · by_cases h3 : pi B = 2
      · exact ⟨0, fun post h => by
          unfold wX_errorAt_103
          refine br_f (by decide) (br_f (by decide) (br_t (by decide) ⟨vK, ?_⟩))
          unfold wpX_newError wpX_nullnessOf wX_newError_19 wpX_initOf
          rw [xK, cB, hN, hI]
          simp [vB, vK, h1, h2, h3, h], fun yec yep ych post h => by
          unfold wY_rule_76
          refine br_t (by decide) ?_
          unfold wY_rule_108
          rw [xK, cB]
          simp [vB, vK, h1, h2, h3, h]⟩
      · by_cases h4 : si (((b * 33 + p) * 8) + K) = pi B
        · exact ⟨0, fun post h => by
            unfold wX_errorAt_103
            refine br_f (by decide) (br_f (by decide) (br_t (by decide) ⟨vK, ?_⟩))
            unfold wpX_newError wpX_nullnessOf wX_newError_19 wpX_initOf
            rw [xK, cB, hN, hI]
            simp [vB, vK, h1, h2, h3, h4, h], fun yec yep ych post h => by
            unfold wY_rule_76
            refine br_t (by decide) ?_
            unfold wY_rule_108
            rw [xK, cB]
            simp [vB, vK, h1, h2, h3, h4, h]⟩
        · exact ⟨3, fun post h => by
            unfold wX_errorAt_103
            refine br_f (by decide) (br_f (by decide) (br_t (by decide) ⟨vK, ?_⟩))
            unfold wpX_newError wpX_nullnessOf wX_newError_19 wpX_initOf
            rw [xK, cB, hN, hI]
            simp [vB, vK, h1, h2, h3, h4, h], fun yec yep ych post h => by
            unfold wY_rule_76
            refine br_t (by decide) ?_
            unfold wY_rule_108
            rw [xK, cB]
            simp [vB, vK, h1, h2, h3, h4, h]⟩
  · by_cases h3 : pi B = 2
    · exact ⟨0, fun post h => by
        unfold wX_errorAt_103
        refine br_f (by decide) (br_f (by decide) (br_t (by decide) ⟨vK, ?_⟩))
        unfold wpX_newError wpX_nullnessOf wX_newError_19 wpX_initOf
        rw [xK, cB, hN, hI]
        simp [vB, vK, h1, h3, h], fun yec yep ych post h => by
        unfold wY_rule_76
        refine br_t (by decide) ?_
        unfold wY_rule_108
        rw [xK, cB]
        simp [vB, vK, h1, h3, h]⟩
    · by_cases h4 : si (((b * 33 + p) * 8) + K) = pi B
      · exact ⟨0, fun post h => by
          unfold wX_errorAt_103
          refine br_f (by decide) (br_f (by decide) (br_t (by decide) ⟨vK, ?_⟩))
          unfold wpX_newError wpX_nullnessOf wX_newError_19 wpX_initOf
          rw [xK, cB, hN, hI]
          simp [vB, vK, h1, h3, h4, h], fun yec yep ych post h => by
          unfold wY_rule_76
          refine br_t (by decide) ?_
          unfold wY_rule_108
          rw [xK, cB]
          simp [vB, vK, h1, h3, h4, h]⟩
      · exact ⟨3, fun post h => by
          unfold wX_errorAt_103
          refine br_f (by decide) (br_f (by decide) (br_t (by decide) ⟨vK, ?_⟩))
          unfold wpX_newError wpX_nullnessOf wX_newError_19 wpX_initOf
          rw [xK, cB, hN, hI]
          simp [vB, vK, h1, h3, h4, h], fun yec yep ych post h => by
          unfold wY_rule_76
          refine br_t (by decide) ?_
          unfold wY_rule_108
          rw [xK, cB]
          simp [vB, vK, h1, h3, h4, h]⟩
theorem er_3 (hb : b < 4) (hp : p < 33) (hB : B < 8) (hK : K < 4) (hcell : ∀ l, l < 8 → ∃ c, nc_cr (so (((b * 33 + p) * 8) + l)) (sn (((b * 33 + p) * 8) + l)) (si (((b * 33 + p) * 8) + l)) (sf (((b * 33 + p) * 8) + l)) c) : ∃ e : Int32, (∀ post : Int32 → Prop, post e → wX_errorAt_103 post (nI ((b * 33 + p) * 8)) (nI 3) (nI A) (nI B) (nI K) cc hc md sel cs ec ep ms oc fc uc fk pn pi ln pg so ed he fr ou) ∧ (∀ (yec yep ych : Int32) (post : Int32 → Prop), post e → wY_rule_76 post (nI 3) (nI A) (nI B) (nI K) (nI ((b * 33 + p) * 8)) cc hc md sel yec yep cs ms oc uc fc ych fk pn pi ln pg rc sn si sf tn ti tf he ou fr) := by
  obtain ⟨c, hcx⟩ := hcell B hB
  have hN := (ne_nu hcx).1
  have hI := (ne_ini hcx).1
  have hQ := ne_kn hK hcx
  have vB : vp_in (nI ((b * 33 + p) * 8) + nI B) 1056 := nn_inA (by omega) (by decide)
  have xB : (nI ((b * 33 + p) * 8) + nI B).toNatClampNeg = ((b * 33 + p) * 8) + B := nn_clA (by omega)
  have vK : vp_in (nI K) 4 := vp_in_nI hK (by decide)
  have cK : (nI K).toNatClampNeg = K := nI_clamp (by omega)
  by_cases h1 : sn (((b * 33 + p) * 8) + B) = 1
  · exact ⟨4, fun post h => by
      unfold wX_errorAt_103
      refine br_f (by decide) (br_f (by decide) (br_f (by decide) (br_t (by decide) ⟨vB, ?_⟩)))
      unfold wpX_getError wpX_nullnessOf wpX_initOf wpX_knows
      rw [xB, cK, hN, hI]
      simp [hQ, vB, vK, h1, h], fun yec yep ych post h => by
      unfold wY_rule_76
      refine br_f (by decide) (br_t (by decide) ?_)
      rw [xB, cK]
      simp [hQ, vB, vK, h1, h]⟩
  · by_cases h2 : fk K = 0
    · by_cases h3 : si (((b * 33 + p) * 8) + B) = 0
      · exact ⟨0, fun post h => by
          unfold wX_errorAt_103
          refine br_f (by decide) (br_f (by decide) (br_f (by decide) (br_t (by decide) ⟨vB, ?_⟩)))
          unfold wpX_getError wpX_nullnessOf wpX_initOf wpX_knows
          rw [xB, cK, hN, hI]
          simp [hQ, vB, vK, h1, h2, h3, h], fun yec yep ych post h => by
          unfold wY_rule_76
          refine br_f (by decide) (br_t (by decide) ?_)
          rw [xB, cK]
          simp [hQ, vB, vK, h1, h2, h3, h]⟩
      · by_cases h4 : ((sf (((b * 33 + p) * 8) + B) >>> (nI K &&& 31)) &&& 1) = 0
        · exact ⟨5, fun post h => by
            unfold wX_errorAt_103
            refine br_f (by decide) (br_f (by decide) (br_f (by decide) (br_t (by decide) ⟨vB, ?_⟩)))
            unfold wpX_getError wpX_nullnessOf wpX_initOf wpX_knows
            rw [xB, cK, hN, hI]
            simp [hQ, vB, vK, h1, h2, h3, h4, h], fun yec yep ych post h => by
            unfold wY_rule_76
            refine br_f (by decide) (br_t (by decide) ?_)
            rw [xB, cK]
            simp [hQ, vB, vK, h1, h2, h3, h4, h]⟩
        · exact ⟨0, fun post h => by
            unfold wX_errorAt_103
            refine br_f (by decide) (br_f (by decide) (br_f (by decide) (br_t (by decide) ⟨vB, ?_⟩)))
            unfold wpX_getError wpX_nullnessOf wpX_initOf wpX_knows
            rw [xB, cK, hN, hI]
            simp [hQ, vB, vK, h1, h2, h3, h4, h], fun yec yep ych post h => by
            unfold wY_rule_76
            refine br_f (by decide) (br_t (by decide) ?_)
            rw [xB, cK]
            simp [hQ, vB, vK, h1, h2, h3, h4, h]⟩
    · exact ⟨0, fun post h => by
        unfold wX_errorAt_103
        refine br_f (by decide) (br_f (by decide) (br_f (by decide) (br_t (by decide) ⟨vB, ?_⟩)))
        unfold wpX_getError wpX_nullnessOf wpX_initOf wpX_knows
        rw [xB, cK, hN, hI]
        simp [hQ, vB, vK, h1, h2, h], fun yec yep ych post h => by
        unfold wY_rule_76
        refine br_f (by decide) (br_t (by decide) ?_)
        rw [xB, cK]
        simp [hQ, vB, vK, h1, h2, h]⟩
theorem er_4 (hb : b < 4) (hp : p < 33) (hA : A < 8) (hB : B < 4) (hK : K < 8) (hcell : ∀ l, l < 8 → ∃ c, nc_cr (so (((b * 33 + p) * 8) + l)) (sn (((b * 33 + p) * 8) + l)) (si (((b * 33 + p) * 8) + l)) (sf (((b * 33 + p) * 8) + l)) c) : ∃ e : Int32, (∀ post : Int32 → Prop, post e → wX_errorAt_103 post (nI ((b * 33 + p) * 8)) (nI 4) (nI A) (nI B) (nI K) cc hc md sel cs ec ep ms oc fc uc fk pn pi ln pg so ed he fr ou) ∧ (∀ (yec yep ych : Int32) (post : Int32 → Prop), post e → wY_rule_76 post (nI 4) (nI A) (nI B) (nI K) (nI ((b * 33 + p) * 8)) cc hc md sel yec yep cs ms oc uc fc ych fk pn pi ln pg rc sn si sf tn ti tf he ou fr) := by
  obtain ⟨c, hcx⟩ := hcell A hA
  obtain ⟨c2, hcy⟩ := hcell K hK
  have hN := (ne_nu hcx).1
  have hI := (ne_ini hcx).1
  have hN2 := (ne_nu hcy).1
  have hI2 := (ne_ini hcy).1
  have vA : vp_in (nI ((b * 33 + p) * 8) + nI A) 1056 := nn_inA (by omega) (by decide)
  have xA : (nI ((b * 33 + p) * 8) + nI A).toNatClampNeg = ((b * 33 + p) * 8) + A := nn_clA (by omega)
  have vK : vp_in (nI ((b * 33 + p) * 8) + nI K) 1056 := nn_inA (by omega) (by decide)
  have xK : (nI ((b * 33 + p) * 8) + nI K).toNatClampNeg = ((b * 33 + p) * 8) + K := nn_clA (by omega)
  have vB : vp_in (nI B) 4 := vp_in_nI hB (by decide)
  have cB : (nI B).toNatClampNeg = B := nI_clamp (by omega)
  by_cases h1 : sn (((b * 33 + p) * 8) + A) = 1
  · exact ⟨4, fun post h => by
      unfold wX_errorAt_103
      refine br_f (by decide) (br_f (by decide) (br_f (by decide) (br_f (by decide) (br_t (by decide) ⟨vA, vK, ?_⟩))))
      unfold wpX_putError wX_putError_30 wpX_nullnessOf wpX_initOf
      rw [xA, xK, cB, hN, hI, hN2, hI2]
      simp [vA, vB, vK, h1, h], fun yec yep ych post h => by
      unfold wY_rule_76
      refine br_f (by decide) (br_f (by decide) (br_t (by decide) ?_))
      unfold wY_rule_255
      rw [xA, xK, cB]
      simp [vA, vB, vK, h1, h]⟩
  · by_cases h2 : fk B = 0
    · by_cases h3 : sn (((b * 33 + p) * 8) + K) = 1
      · exact ⟨6, fun post h => by
          unfold wX_errorAt_103
          refine br_f (by decide) (br_f (by decide) (br_f (by decide) (br_f (by decide) (br_t (by decide) ⟨vA, vK, ?_⟩))))
          unfold wpX_putError wX_putError_30 wpX_nullnessOf wpX_initOf
          rw [xA, xK, cB, hN, hI, hN2, hI2]
          simp [vA, vB, vK, h1, h2, h3, h], fun yec yep ych post h => by
          unfold wY_rule_76
          refine br_f (by decide) (br_f (by decide) (br_t (by decide) ?_))
          unfold wY_rule_255
          rw [xA, xK, cB]
          simp [vA, vB, vK, h1, h2, h3, h]⟩
      · by_cases h4 : si (((b * 33 + p) * 8) + A) = 1
        · exact ⟨0, fun post h => by
            unfold wX_errorAt_103
            refine br_f (by decide) (br_f (by decide) (br_f (by decide) (br_f (by decide) (br_t (by decide) ⟨vA, vK, ?_⟩))))
            unfold wpX_putError wX_putError_30 wpX_nullnessOf wpX_initOf
            rw [xA, xK, cB, hN, hI, hN2, hI2]
            simp [vA, vB, vK, h1, h2, h3, h4, h], fun yec yep ych post h => by
            unfold wY_rule_76
            refine br_f (by decide) (br_f (by decide) (br_t (by decide) ?_))
            unfold wY_rule_255
            rw [xA, xK, cB]
            simp [vA, vB, vK, h1, h2, h3, h4, h]⟩
        · by_cases h5 : si (((b * 33 + p) * 8) + K) = 0
          · exact ⟨0, fun post h => by
              unfold wX_errorAt_103
              refine br_f (by decide) (br_f (by decide) (br_f (by decide) (br_f (by decide) (br_t (by decide) ⟨vA, vK, ?_⟩))))
              unfold wpX_putError wX_putError_30 wpX_nullnessOf wpX_initOf
              rw [xA, xK, cB, hN, hI, hN2, hI2]
              simp [vA, vB, vK, h1, h2, h3, h4, h5, h], fun yec yep ych post h => by
              unfold wY_rule_76
              refine br_f (by decide) (br_f (by decide) (br_t (by decide) ?_))
              unfold wY_rule_255
              rw [xA, xK, cB]
              simp [vA, vB, vK, h1, h2, h3, h4, h5, h]⟩
          · exact ⟨7, fun post h => by
              unfold wX_errorAt_103
              refine br_f (by decide) (br_f (by decide) (br_f (by decide) (br_f (by decide) (br_t (by decide) ⟨vA, vK, ?_⟩))))
              unfold wpX_putError wX_putError_30 wpX_nullnessOf wpX_initOf
              rw [xA, xK, cB, hN, hI, hN2, hI2]
              simp [vA, vB, vK, h1, h2, h3, h4, h5, h], fun yec yep ych post h => by
              unfold wY_rule_76
              refine br_f (by decide) (br_f (by decide) (br_t (by decide) ?_))
              unfold wY_rule_255
              rw [xA, xK, cB]
              simp [vA, vB, vK, h1, h2, h3, h4, h5, h]⟩
    · by_cases h4 : si (((b * 33 + p) * 8) + A) = 1
      · exact ⟨0, fun post h => by
          unfold wX_errorAt_103
          refine br_f (by decide) (br_f (by decide) (br_f (by decide) (br_f (by decide) (br_t (by decide) ⟨vA, vK, ?_⟩))))
          unfold wpX_putError wX_putError_30 wpX_nullnessOf wpX_initOf
          rw [xA, xK, cB, hN, hI, hN2, hI2]
          simp [vA, vB, vK, h1, h2, h4, h], fun yec yep ych post h => by
          unfold wY_rule_76
          refine br_f (by decide) (br_f (by decide) (br_t (by decide) ?_))
          unfold wY_rule_255
          rw [xA, xK, cB]
          simp [vA, vB, vK, h1, h2, h4, h]⟩
      · by_cases h5 : si (((b * 33 + p) * 8) + K) = 0
        · exact ⟨0, fun post h => by
            unfold wX_errorAt_103
            refine br_f (by decide) (br_f (by decide) (br_f (by decide) (br_f (by decide) (br_t (by decide) ⟨vA, vK, ?_⟩))))
            unfold wpX_putError wX_putError_30 wpX_nullnessOf wpX_initOf
            rw [xA, xK, cB, hN, hI, hN2, hI2]
            simp [vA, vB, vK, h1, h2, h4, h5, h], fun yec yep ych post h => by
            unfold wY_rule_76
            refine br_f (by decide) (br_f (by decide) (br_t (by decide) ?_))
            unfold wY_rule_255
            rw [xA, xK, cB]
            simp [vA, vB, vK, h1, h2, h4, h5, h]⟩
        · exact ⟨7, fun post h => by
            unfold wX_errorAt_103
            refine br_f (by decide) (br_f (by decide) (br_f (by decide) (br_f (by decide) (br_t (by decide) ⟨vA, vK, ?_⟩))))
            unfold wpX_putError wX_putError_30 wpX_nullnessOf wpX_initOf
            rw [xA, xK, cB, hN, hI, hN2, hI2]
            simp [vA, vB, vK, h1, h2, h4, h5, h], fun yec yep ych post h => by
            unfold wY_rule_76
            refine br_f (by decide) (br_f (by decide) (br_t (by decide) ?_))
            unfold wY_rule_255
            rw [xA, xK, cB]
            simp [vA, vB, vK, h1, h2, h4, h5, h]⟩
theorem er_o (ho : o < 2 ∨ 4 < o) (ho2 : o < 10) : (∀ post : Int32 → Prop, post 0 → wX_errorAt_103 post (nI ((b * 33 + p) * 8)) (nI o) (nI A) (nI B) (nI K) cc hc md sel cs ec ep ms oc fc uc fk pn pi ln pg so ed he fr ou) ∧ (∀ (yec yep ych : Int32) (post : Int32 → Prop), post 0 → wY_rule_76 post (nI o) (nI A) (nI B) (nI K) (nI ((b * 33 + p) * 8)) cc hc md sel yec yep cs ms oc uc fc ych fk pn pi ln pg rc sn si sf tn ti tf he ou fr) := by
  refine ⟨fun post h => ?_, fun yec yep ych post h => ?_⟩
  · unfold wX_errorAt_103
    rcases ho with z | z
    · exact br_t ((nl_lt2 (by omega)).mpr z) h
    · exact br_f (fun q => by have := (nl_lt2 (by omega)).mp q; omega) (br_t ((nl_gt4 (by omega)).mpr z) h)
  · unfold wY_rule_76
    exact br_f (fun q => by have := (nl_eq2 (by omega)).mp q; omega) (br_f (fun q => by have := (nl_eq3 (by omega)).mp q; omega) (br_f (fun q => by have := (nl_eq4 (by omega)).mp q; omega) h))
theorem er_all (hb : b < 4) (hp : p < 33) (hi : nv_in o A B K) (hcell : ∀ l, l < 8 → ∃ c, nc_cr (so (((b * 33 + p) * 8) + l)) (sn (((b * 33 + p) * 8) + l)) (si (((b * 33 + p) * 8) + l)) (sf (((b * 33 + p) * 8) + l)) c) : ∃ e : Int32, (∀ post : Int32 → Prop, post e → wX_errorAt_103 post (nI ((b * 33 + p) * 8)) (nI o) (nI A) (nI B) (nI K) cc hc md sel cs ec ep ms oc fc uc fk pn pi ln pg so ed he fr ou) ∧ (∀ (yec yep ych : Int32) (post : Int32 → Prop), post e → wY_rule_76 post (nI o) (nI A) (nI B) (nI K) (nI ((b * 33 + p) * 8)) cc hc md sel yec yep cs ms oc uc fc ych fk pn pi ln pg rc sn si sf tn ti tf he ou fr) := by
  obtain ⟨i1, i2, i3, i4, i5, i6, i7, i8, i9⟩ := hi
  by_cases z2 : o = 2
  · subst z2
    exact er_2 hb hp (i7 rfl).2 i4 hcell
  · by_cases z3 : o = 3
    · subst z3
      exact er_3 hb hp (i6 (by omega)) (i9 rfl) hcell
    · by_cases z4 : o = 4
      · subst z4
        exact er_4 hb hp (i5 (by omega)) (i8 rfl) i4 hcell
      · exact ⟨0, er_o (by omega) i1⟩
theorem er_both {L : Nat → Nat} (hb : b < 4) (hlb : ln b = nI (L b)) (hl2 : L b ≤ 32) (hpg : nv_pg L pg) (hp : p < L b) (hq : nr_pt so rc sn si sf (b * 33 + p)) (h1 : rc (b * 33 + p) = 1) : ∃ e : Int32, (∀ post : Int32 → Prop, post e → wpX_errorAt post (cc, hc, md, sel, cs, ec, ep, ms, oc, fc, uc, fk, pn, pi, ln, pg, so, ed, he, fr, ou) (nI b) (nI p)) ∧ (∀ (yec yep ych : Int32) (post : Int32 → Prop), post e → wpY_rule post (cc, hc, md, sel, yec, yep, cs, ms, oc, uc, fc, ych, fk, pn, pi, ln, pg, rc, sn, si, sf, tn, ti, tf, he, ou, fr) (nI b) (nI p)) := by
  obtain ⟨o, A, B, K, eo, ea, eB, eK, hi⟩ := hpg b hb p hp
  have hcell : ∀ l, l < 8 → ∃ c, nc_cr (so (((b * 33 + p) * 8) + l)) (sn (((b * 33 + p) * 8) + l)) (si (((b * 33 + p) * 8) + l)) (sf (((b * 33 + p) * 8) + l)) c := by
    rcases hq with ⟨h2, _⟩ | ⟨_, h3⟩
    · rw [h1] at h2
      exact absurd h2 (by decide)
    · exact h3
  have i1 := hi.1
  have i2 := hi.2.1
  obtain ⟨e, hX, hY⟩ := er_all (cc := cc) (hc := hc) (md := md) (sel := sel) (cs := cs) (ec := ec) (ep := ep) (ms := ms) (oc := oc) (fc := fc) (uc := uc) (fk := fk) (pn := pn) (pi := pi) (ln := ln) (pg := pg) (ed := ed) (he := he) (fr := fr) (ou := ou) (rc := rc) (tn := tn) (ti := ti) (tf := tf) hb (by omega) hi hcell
  have cb : (nI b).toNatClampNeg = b := nI_clamp (by omega)
  have vb : vp_in (nI b) 4 := vp_in_nI hb (by decide)
  have nl : ¬ nI p = nI (L b) := fun z => by
    have := (nI_eq (by omega) (by omega)).mp z
    omega
  have X0 : ∀ post : Int32 → Prop, (wpX_errorAt post (cc, hc, md, sel, cs, ec, ep, ms, oc, fc, uc, fk, pn, pi, ln, pg, so, ed, he, fr, ou) (nI b) (nI p)) ↔ ((nI b = 0 → wX_errorAt_103 post (nI ((b * 33 + p) * 8)) (nI o) (nI A) (nI B) (nI K) cc hc md sel cs ec ep ms oc fc uc fk pn pi ln pg so ed he fr ou) ∧ (¬ nI b = 0 → ((nI A = 0 → wpX_assignsLocal (fun r_90 => (((r_90 = 0 → (wX_errorAt_103 post (nI ((b * 33 + p) * 8)) (nI o) (nI A) (nI B) (nI K) cc hc md sel cs ec ep ms oc fc uc fk pn pi ln pg so ed he fr ou)) ∧ (¬ r_90 = 0 → (post 1))))) (nI o)) ∧ (¬ nI A = 0 → wX_errorAt_103 post (nI ((b * 33 + p) * 8)) (nI o) (nI A) (nI B) (nI K) cc hc md sel cs ec ep ms oc fc uc fk pn pi ln pg so ed he fr ou)))) := by
    intro post
    unfold wpX_errorAt wpX_stateAt wpX_codeAt
    simp (disch := omega) only [nn_st, nn_ct, cb, hlb, nl, vb, nn_a1, nn_a2, nn_a3, nn_in, nI_clamp, eo, ea, eB, eK, forall_eq, true_and, false_implies, not_false_eq_true, true_implies]
  have Y0 : ∀ (yec yep ych : Int32) (post : Int32 → Prop), (wpY_rule post (cc, hc, md, sel, yec, yep, cs, ms, oc, uc, fc, ych, fk, pn, pi, ln, pg, rc, sn, si, sf, tn, ti, tf, he, ou, fr) (nI b) (nI p)) ↔ ((nI b < 1 → wY_rule_76 post (nI o) (nI A) (nI B) (nI K) (nI ((b * 33 + p) * 8)) cc hc md sel yec yep cs ms oc uc fc ych fk pn pi ln pg rc sn si sf tn ti tf he ou fr) ∧ (¬ nI b < 1 → ((3 < nI o → wY_rule_76 post (nI o) (nI A) (nI B) (nI K) (nI ((b * 33 + p) * 8)) cc hc md sel yec yep cs ms oc uc fc ych fk pn pi ln pg rc sn si sf tn ti tf he ou fr) ∧ (¬ 3 < nI o → ((nI A = 0 → post 1) ∧ (¬ nI A = 0 → wY_rule_76 post (nI o) (nI A) (nI B) (nI K) (nI ((b * 33 + p) * 8)) cc hc md sel yec yep cs ms oc uc fc ych fk pn pi ln pg rc sn si sf tn ti tf he ou fr)))))) := by
    intro yec yep ych post
    unfold wpY_rule
    simp (disch := omega) only [nn_st, nn_ct, nn_a1, nn_a2, nn_a3, nn_in, nI_clamp, eo, ea, eB, eK, forall_eq, true_and]
  by_cases hd : 0 < b ∧ o ≤ 3 ∧ A = 0
  · obtain ⟨d1, d2, d3⟩ := hd
    refine ⟨1, fun post h => ?_, fun yec yep ych post h => ?_⟩
    · rw [X0]
      refine br_f (nI_ne0 d1 (by omega)) (br_t ((nl_eq0 (by omega)).mpr d3) ?_)
      have ho : o = 0 ∨ o = 1 ∨ o = 2 ∨ o = 3 := by omega
      unfold wpX_assignsLocal
      rcases ho with rfl | rfl | rfl | rfl
      · exact br_t (by decide) (br_f (by decide) h)
      · exact br_f (by decide) (br_t (by decide) (br_f (by decide) h))
      · exact br_f (by decide) (br_f (by decide) (br_t (by decide) (br_f (by decide) h)))
      · exact br_f (by decide) (br_f (by decide) (br_f (by decide) (br_t (by decide) (br_f (by decide) h))))
    · rw [Y0]
      exact br_f (fun q => by have := (nl_lt1 (by omega)).mp q; omega) (br_f (fun q => by have := (nl_gt3 (by omega)).mp q; omega) (br_t ((nl_eq0 (by omega)).mpr d3) h))
  · refine ⟨e, fun post h => ?_, fun yec yep ych post h => ?_⟩
    · have q := hX post h
      rw [X0]
      refine br_c (fun _ => q) (fun z1 => br_c (fun z2 => ?_) (fun _ => q))
      have z3 := (nl_eq0 (by omega)).mp z2
      have z4 : b ≠ 0 := fun z => z1 ((nl_eq0 (by omega)).mpr z)
      have z5 : 3 < o := by
        by_cases z6 : o ≤ 3
        · exact absurd ⟨by omega, z6, z3⟩ hd
        · omega
      unfold wpX_assignsLocal
      exact br_f (fun q => by have := (nl_eq0 (by omega)).mp q; omega) (br_f (fun q => by have := (nl_eq1 (by omega)).mp q; omega) (br_f (fun q => by have := (nl_eq2 (by omega)).mp q; omega) (br_f (fun q => by have := (nl_eq3 (by omega)).mp q; omega) (br_t rfl q))))
    · have q := hY yec yep ych post h
      rw [Y0]
      refine br_c (fun _ => q) (fun z1 => br_c (fun _ => q) (fun z5 => br_c (fun z2 => ?_) (fun _ => q)))
      have z3 := (nl_eq0 (by omega)).mp z2
      have z4 : ¬ b < 1 := fun z => z1 ((nl_lt1 (by omega)).mpr z)
      have z6 : ¬ 3 < o := fun z => z5 ((nl_gt3 (by omega)).mpr z)
      exact absurd ⟨by omega, by omega, z3⟩ hd
theorem xw_end {c : Nat} (hcc : c < 128) {post : Int32 → Prop} (h0 : (∀ f, f < 4 → (fk f = 0 → c / 8 / 2 ^ f % 2 ≠ 0)) → post 0) (h8 : ¬ (∀ f, f < 4 → (fk f = 0 → c / 8 / 2 ^ f % 2 ≠ 0)) → post 8) : wpX_endError post (cc, hc, md, sel, cs, ec, ep, ms, oc, fc, uc, fk, pn, pi, ln, pg, so, ed, he, fr, ou) (nI c) := by
  have H : ∀ d i, i + d = 4 → (∀ f, f < i → (fk f = 0 → c / 8 / 2 ^ f % 2 ≠ 0)) → wX_endError_2 post (nI c) cc hc md sel cs ec ep ms oc fc uc fk pn pi ln pg so ed he fr ou (d + 1) (nI i) := by
    intro d
    induction d with
    | zero =>
      intro i hi g
      obtain rfl : i = 4 := by omega
      rw [wX_endError_2]
      exact br_t (by decide) (h0 g)
    | succ d ih =>
      intro i hi g
      rw [wX_endError_2]
      refine br_f (nn_nge 4 (by omega) (by decide)) ⟨vp_in_nI (by omega) (by decide), ?_⟩
      rw [nI_clamp (by omega)]
      refine br_c (fun e => ?_) (fun e => nm_r (nI_1 i) (ih (i + 1) (by omega) (fun f hf e2 => ?_)))
      · unfold wpX_knows
        refine br_c (fun e2 => br_t rfl (h8 (fun z => z i (by omega) e ((nc_eK i (by omega) c hcc).mp e2)))) (fun e2 => br_f (by decide) (nm_r (nI_1 i) (ih (i + 1) (by omega) (fun f hf e3 => ?_))))
        by_cases z : f = i
        · subst z
          exact fun q => e2 ((nc_eK f (by omega) c hcc).mpr q)
        · exact g f (by omega) e3
      · by_cases z : f = i
        · subst z
          exact absurd e2 e
        · exact g f (by omega) e2
  unfold wpX_endError
  exact ⟨5, H 4 0 (by omega) (fun f hf => absurd hf (by omega))⟩
theorem rp_in {L : Nat → Nat} (hb : b < 4) (hfk : ∀ j, j < 4 → fk j = 0 ∨ fk j = 1) (hlb : ln b = nI (L b)) (hl2 : L b ≤ 32) (hpg : nv_pg L pg) (hq : ∀ p, p ≤ L b → nr_pt so rc sn si sf (b * 33 + p)) : ∀ d p : Nat, p + d = L b + 1 → ((∀ (post : SX → Prop) (J : Int32 → Int32 → Prop), J (nI b + 1) 0 → wX_report_19 post J (nI b) cc hc md sel cs ep ms oc fc uc fk pn pi ln pg so ed he fr ou (d + 1) (nI p) 0) ∧ (∀ (yec yep ych : Int32) (post : Int32 → SY → Prop), post (-1) (cc, hc, md, sel, yec, yep, cs, ms, oc, uc, fc, ych, fk, pn, pi, ln, pg, rc, sn, si, sf, tn, ti, tf, he, ou, fr) → wY_findErr_7 post (nI b) (ne_ym fk 4) cc hc md sel yec yep cs ms oc uc fc ych fk pn pi ln pg rc sn si sf tn ti tf he ou fr (d + 1) (nI p))) ∨ (∃ (p' : Nat) (e : Int32), p' ≤ L b ∧ e ≠ 0 ∧ (∀ (post : SX → Prop) (J : Int32 → Int32 → Prop), post (cc, hc, md, sel, cs, e, (nI (64 * b + p')), ms, oc, fc, uc, fk, pn, pi, ln, pg, so, ed, he, fr, ou) → wX_report_19 post J (nI b) cc hc md sel cs ep ms oc fc uc fk pn pi ln pg so ed he fr ou (d + 1) (nI p) 0) ∧ (∀ (yec yep ych : Int32) (post : Int32 → SY → Prop), post (nI p') (cc, hc, md, sel, e, yep, cs, ms, oc, uc, fc, ych, fk, pn, pi, ln, pg, rc, sn, si, sf, tn, ti, tf, he, ou, fr) → wY_findErr_7 post (nI b) (ne_ym fk 4) cc hc md sel yec yep cs ms oc uc fc ych fk pn pi ln pg rc sn si sf tn ti tf he ou fr (d + 1) (nI p))) := by
  have cb : (nI b).toNatClampNeg = b := nI_clamp (by omega)
  have vb : vp_in (nI b) 4 := vp_in_nI hb (by decide)
  intro d
  induction d with
  | zero =>
    intro p hpd
    left
    refine ⟨fun post J h => ?_, fun yec yep ych post h => ?_⟩
    · rw [wX_report_19]
      refine ⟨vb, ?_⟩
      rw [cb, hlb]
      exact br_t (nI_lt (by omega) (by omega)) (nm_e h)
    · rw [wY_findErr_7]
      refine ⟨vb, ?_⟩
      rw [cb, hlb]
      exact br_t (nI_lt (by omega) (by omega)) h
  | succ d ih =>
    intro p hpd
    have hqp := hq p (by omega)
    obtain ⟨hrs, h01⟩ := nr_pt1 hqp
    have ngt : ¬ nI (L b) < nI p := nI_nlt (by omega) (by omega)
    have c1 : (nI ((b * 33 + p) * 8)).toNatClampNeg = ((b * 33 + p) * 8) := nI_clamp (by omega)
    have c2 : (nI (b * 33 + p)).toNatClampNeg = b * 33 + p := nI_clamp (by omega)
    have v1 : vp_in (nI ((b * 33 + p) * 8)) 1056 := vp_in_nI (by omega) (by decide)
    have v2 : vp_in (nI (b * 33 + p)) 132 := vp_in_nI (by omega) (by decide)
    have XU : rc (b * 33 + p) = 0 → ∀ (post : SX → Prop) (J : Int32 → Int32 → Prop), wX_report_19 post J (nI b) cc hc md sel cs ep ms oc fc uc fk pn pi ln pg so ed he fr ou (d + 1) (nI (p + 1)) 0 → wX_report_19 post J (nI b) cc hc md sel cs ep ms oc fc uc fk pn pi ln pg so ed he fr ou (d + 1 + 1) (nI p) 0 := by
      intro z post J h
      rw [wX_report_19]
      refine ⟨vb, ?_⟩
      rw [cb, hlb]
      refine br_f ngt ?_
      unfold wpX_isReached wpX_stateAt
      rw [nn_st]
      refine ⟨v1, ?_⟩
      rw [c1]
      refine br_t (hrs.mpr z) (br_t rfl ?_)
      unfold wX_report_48
      exact br_t rfl (nm_r (nI_1 p) h)
    have XE : rc (b * 33 + p) = 1 → ∀ (post : SX → Prop) (J : Int32 → Int32 → Prop), wpX_errorAt (fun r_31 => wX_report_48 post J (wX_report_19 post J (nI b) cc hc md sel cs ep ms oc fc uc fk pn pi ln pg so ed he fr ou (d + 1)) (nI b) (nI p) cc hc md sel cs r_31 ep ms oc fc uc fk pn pi ln pg so ed he fr ou) (cc, hc, md, sel, cs, 0, ep, ms, oc, fc, uc, fk, pn, pi, ln, pg, so, ed, he, fr, ou) (nI b) (nI p) → wX_report_19 post J (nI b) cc hc md sel cs ep ms oc fc uc fk pn pi ln pg so ed he fr ou (d + 1 + 1) (nI p) 0 := by
      intro z post J h
      rw [wX_report_19]
      refine ⟨vb, ?_⟩
      rw [cb, hlb]
      refine br_f ngt ?_
      unfold wpX_isReached wpX_stateAt
      rw [nn_st]
      refine ⟨v1, ?_⟩
      rw [c1]
      exact br_f (fun e => absurd ((hrs.mp e).symm.trans z) (by decide)) (br_f (by decide) h)
    have X0 : ∀ (post : SX → Prop) (J : Int32 → Int32 → Prop), wX_report_19 post J (nI b) cc hc md sel cs ep ms oc fc uc fk pn pi ln pg so ed he fr ou (d + 1) (nI (p + 1)) 0 → wX_report_48 post J (wX_report_19 post J (nI b) cc hc md sel cs ep ms oc fc uc fk pn pi ln pg so ed he fr ou (d + 1)) (nI b) (nI p) cc hc md sel cs 0 ep ms oc fc uc fk pn pi ln pg so ed he fr ou := by
      intro post J h
      unfold wX_report_48
      exact br_t rfl (nm_r (nI_1 p) h)
    have X1 : ∀ (e : Int32), e ≠ 0 → ∀ (post : SX → Prop) (J : Int32 → Int32 → Prop), post (cc, hc, md, sel, cs, e, (nI (64 * b + p)), ms, oc, fc, uc, fk, pn, pi, ln, pg, so, ed, he, fr, ou) → wX_report_48 post J (wX_report_19 post J (nI b) cc hc md sel cs ep ms oc fc uc fk pn pi ln pg so ed he fr ou (d + 1)) (nI b) (nI p) cc hc md sel cs e ep ms oc fc uc fk pn pi ln pg so ed he fr ou := by
      intro e he0 post J h
      unfold wX_report_48
      exact br_f he0 (nm_r (by rw [nn_m64, nI_add]) h)
    have YU : rc (b * 33 + p) = 0 → ∀ (yec yep ych : Int32) (post : Int32 → SY → Prop), wY_findErr_7 post (nI b) (ne_ym fk 4) cc hc md sel yec yep cs ms oc uc fc ych fk pn pi ln pg rc sn si sf tn ti tf he ou fr (d + 1) (nI (p + 1)) → wY_findErr_7 post (nI b) (ne_ym fk 4) cc hc md sel yec yep cs ms oc uc fc ych fk pn pi ln pg rc sn si sf tn ti tf he ou fr (d + 1 + 1) (nI p) := by
      intro z yec yep ych post h
      rw [wY_findErr_7]
      refine ⟨vb, ?_⟩
      rw [cb, hlb]
      refine br_f ngt ?_
      rw [nn_m33, nI_add, c2]
      exact ⟨v2, br_t z (nm_r (nI_1 p) h)⟩
    have Y0 : ∀ (yec yep ych : Int32) (post : Int32 → SY → Prop), wY_findErr_7 post (nI b) (ne_ym fk 4) cc hc md sel yec yep cs ms oc uc fc ych fk pn pi ln pg rc sn si sf tn ti tf he ou fr (d + 1) (nI (p + 1)) → wY_findErr_87 post (wY_findErr_7 post (nI b) (ne_ym fk 4) cc hc md sel yec yep cs ms oc uc fc ych fk pn pi ln pg rc sn si sf tn ti tf he ou fr (d + 1)) (nI b) (ne_ym fk 4) (nI p) 0 cc hc md sel yec yep cs ms oc uc fc ych fk pn pi ln pg rc sn si sf tn ti tf he ou fr := by
      intro yec yep ych post h
      unfold wY_findErr_87
      exact br_t rfl (nm_r (nI_1 p) h)
    have Y1 : ∀ (e : Int32), e ≠ 0 → ∀ (yec yep ych : Int32) (post : Int32 → SY → Prop), post (nI p) (cc, hc, md, sel, e, yep, cs, ms, oc, uc, fc, ych, fk, pn, pi, ln, pg, rc, sn, si, sf, tn, ti, tf, he, ou, fr) → wY_findErr_87 post (wY_findErr_7 post (nI b) (ne_ym fk 4) cc hc md sel yec yep cs ms oc uc fc ych fk pn pi ln pg rc sn si sf tn ti tf he ou fr (d + 1)) (nI b) (ne_ym fk 4) (nI p) e cc hc md sel yec yep cs ms oc uc fc ych fk pn pi ln pg rc sn si sf tn ti tf he ou fr := by
      intro e he0 yec yep ych post h
      unfold wY_findErr_87
      exact br_f he0 h
    rcases h01 with z | z
    · rcases ih (p + 1) (by omega) with ⟨hX, hY⟩ | ⟨p', e, hp', he0, hX, hY⟩
      · exact Or.inl ⟨fun post J h => XU z post J (hX post J h), fun yec yep ych post h => YU z yec yep ych post (hY yec yep ych post h)⟩
      · exact Or.inr ⟨p', e, hp', he0, fun post J h => XU z post J (hX post J h), fun yec yep ych post h => YU z yec yep ych post (hY yec yep ych post h)⟩
    · obtain ⟨e, hXe, hYe⟩ : ∃ e : Int32, (∀ post : Int32 → Prop, post e → wpX_errorAt post (cc, hc, md, sel, cs, 0, ep, ms, oc, fc, uc, fk, pn, pi, ln, pg, so, ed, he, fr, ou) (nI b) (nI p)) ∧ (∀ (yec yep ych : Int32) (post : Int32 → SY → Prop), wY_findErr_87 post (wY_findErr_7 post (nI b) (ne_ym fk 4) cc hc md sel yec yep cs ms oc uc fc ych fk pn pi ln pg rc sn si sf tn ti tf he ou fr (d + 1)) (nI b) (ne_ym fk 4) (nI p) e cc hc md sel yec yep cs ms oc uc fc ych fk pn pi ln pg rc sn si sf tn ti tf he ou fr → wY_findErr_7 post (nI b) (ne_ym fk 4) cc hc md sel yec yep cs ms oc uc fc ych fk pn pi ln pg rc sn si sf tn ti tf he ou fr (d + 1 + 1) (nI p)) := by
        by_cases pl : p < L b
        · obtain ⟨e, hXe, hYe⟩ := er_both (cc := cc) (hc := hc) (md := md) (sel := sel) (cs := cs) (ec := 0) (ep := ep) (ms := ms) (oc := oc) (fc := fc) (uc := uc) (fk := fk) (pn := pn) (pi := pi) (ed := ed) (he := he) (fr := fr) (ou := ou) (tn := tn) (ti := ti) (tf := tf) hb hlb hl2 hpg pl hqp z
          refine ⟨e, hXe, fun yec yep ych post h => ?_⟩
          rw [wY_findErr_7]
          refine ⟨vb, ?_⟩
          rw [cb, hlb]
          refine br_f ngt ?_
          rw [nn_m33, nI_add, c2]
          exact ⟨v2, br_f (by rw [z]; decide) ⟨vb, br_f (nI_ge (by omega) (by omega)) (hYe yec yep ych _ h)⟩⟩
        · obtain rfl : p = L b := by omega
          obtain ⟨c, hcx⟩ : ∃ c, nc_cr (so ((b * 33 + L b) * 8)) (sn ((b * 33 + L b) * 8)) (si ((b * 33 + L b) * 8)) (sf ((b * 33 + L b) * 8)) c := by
            rcases hqp with ⟨h2, _⟩ | ⟨_, h3⟩
            · rw [z] at h2
              exact absurd h2 (by decide)
            · exact h3 0 (by omega)
          have hcc := hcx.1.1
          have hYend : ∀ (yec yep ych : Int32) (post : Int32 → SY → Prop), ((nI b < 1 → (wY_findErr_87 post (wY_findErr_7 post (nI b) (ne_ym fk 4) cc hc md sel yec yep cs ms oc uc fc ych fk pn pi ln pg rc sn si sf tn ti tf he ou fr (d + 1)) (nI b) (ne_ym fk 4) (nI (L b)) 0 cc hc md sel yec yep cs ms oc uc fc ych fk pn pi ln pg rc sn si sf tn ti tf he ou fr)) ∧ (¬ nI b < 1 → (vp_in (nI ((b * 33 + L b) * 8)) 1056 ∧ (((((sf ((b * 33 + L b) * 8)) &&& (ne_ym fk 4)) = (ne_ym fk 4) → (wY_findErr_87 post (wY_findErr_7 post (nI b) (ne_ym fk 4) cc hc md sel yec yep cs ms oc uc fc ych fk pn pi ln pg rc sn si sf tn ti tf he ou fr (d + 1)) (nI b) (ne_ym fk 4) (nI (L b)) 0 cc hc md sel yec yep cs ms oc uc fc ych fk pn pi ln pg rc sn si sf tn ti tf he ou fr)) ∧ (¬ ((sf ((b * 33 + L b) * 8)) &&& (ne_ym fk 4)) = (ne_ym fk 4) → (wY_findErr_87 post (wY_findErr_7 post (nI b) (ne_ym fk 4) cc hc md sel yec yep cs ms oc uc fc ych fk pn pi ln pg rc sn si sf tn ti tf he ou fr (d + 1)) (nI b) (ne_ym fk 4) (nI (L b)) 8 cc hc md sel yec yep cs ms oc uc fc ych fk pn pi ln pg rc sn si sf tn ti tf he ou fr))))))) → wY_findErr_7 post (nI b) (ne_ym fk 4) cc hc md sel yec yep cs ms oc uc fc ych fk pn pi ln pg rc sn si sf tn ti tf he ou fr (d + 1 + 1) (nI (L b)) := by
            intro yec yep ych post h
            rw [wY_findErr_7]
            refine ⟨vb, ?_⟩
            rw [cb, hlb]
            refine br_f ngt ?_
            rw [nn_m33, nI_add, c2, nn_m8, c1]
            exact ⟨v2, br_f (by rw [z]; decide) ⟨vb, br_t (nI_le (Nat.le_refl _) (by omega)) h⟩⟩
          have hXend : ∀ post : Int32 → Prop, ((nI b = 0 → post 0) ∧ (¬ nI b = 0 → wpX_endError post (cc, hc, md, sel, cs, 0, ep, ms, oc, fc, uc, fk, pn, pi, ln, pg, so, ed, he, fr, ou) (nI c))) → wpX_errorAt post (cc, hc, md, sel, cs, 0, ep, ms, oc, fc, uc, fk, pn, pi, ln, pg, so, ed, he, fr, ou) (nI b) (nI (L b)) := by
            intro post h
            unfold wpX_errorAt wpX_stateAt
            rw [nn_st]
            refine ⟨vb, ?_⟩
            rw [cb, hlb]
            refine br_t rfl ?_
            rw [c1, hcx.2.1]
            exact ⟨h.1, fun q => ⟨v1, h.2 q⟩⟩
          by_cases b0 : b = 0
          · refine ⟨0, fun post h => hXend post (br_t ((nl_eq0 (by omega)).mpr b0) h), fun yec yep ych post h => hYend yec yep ych post (br_t ((nl_lt1 (by omega)).mpr (by omega)) h)⟩
          · have n0 : ¬ nI b = 0 := fun q => b0 ((nl_eq0 (by omega)).mp q)
            have n1 : ¬ nI b < 1 := fun q => by
              have := (nl_lt1 (by omega)).mp q
              omega
            by_cases g : ∀ f, f < 4 → (fk f = 0 → c / 8 / 2 ^ f % 2 ≠ 0)
            · refine ⟨0, fun post h => hXend post (br_f n0 (xw_end hcc (fun _ => h) (fun q => absurd g q))), fun yec yep ych post h => hYend yec yep ych post (br_f n1 ⟨v1, br_t ?_ h⟩)⟩
              rw [hcx.2.2.2.2]
              exact (ne_end hfk hcc).mpr g
            · refine ⟨8, fun post h => hXend post (br_f n0 (xw_end hcc (fun q => absurd q g) (fun _ => h))), fun yec yep ych post h => hYend yec yep ych post (br_f n1 ⟨v1, br_f ?_ h⟩)⟩
              rw [hcx.2.2.2.2]
              exact fun q => g ((ne_end hfk hcc).mp q)
      by_cases e0 : e = 0
      · subst e0
        rcases ih (p + 1) (by omega) with ⟨hX, hY⟩ | ⟨p', e, hp', he0, hX, hY⟩
        · exact Or.inl ⟨fun post J h => XE z post J (hXe _ (X0 post J (hX post J h))), fun yec yep ych post h => hYe yec yep ych post (Y0 yec yep ych post (hY yec yep ych post h))⟩
        · exact Or.inr ⟨p', e, hp', he0, fun post J h => XE z post J (hXe _ (X0 post J (hX post J h))), fun yec yep ych post h => hYe yec yep ych post (Y0 yec yep ych post (hY yec yep ych post h))⟩
      · exact Or.inr ⟨p, e, by omega, e0, fun post J h => XE z post J (hXe _ (X1 e e0 post J h)), fun yec yep ych post h => hYe yec yep ych post (Y1 e e0 yec yep ych post h)⟩
end
