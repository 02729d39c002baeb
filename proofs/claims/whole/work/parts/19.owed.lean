/-! emit, info, the constructors -/
theorem nx_r7 {x : Int32} (h : nx_fit x 0 7) : ∃ j, j ≤ 7 ∧ x = nI j := nx_of (n := 7) (by decide) h
theorem nx_r3 {x : Int32} (h : nx_fit x 0 3) : ∃ j, j ≤ 3 ∧ x = nI j := nx_of (n := 3) (by decide) h
theorem nx_r13 {x : Int32} (h : nx_fit x 1 3) : ∃ j, 1 ≤ j ∧ j ≤ 3 ∧ x = nI j := by
  have h1 := nx_lo h (by decide)
  have h2 := nx_hi h (by decide)
  have e1 : ¬ x < 0 := fun z => h1 (Int32.lt_trans z (by decide))
  obtain ⟨j, hj, rfl⟩ := nI_of e1
  refine ⟨j, ?_, ?_, rfl⟩
  · by_cases z : 1 ≤ j
    · exact z
    · exact absurd ((nl_lt1 hj).mpr (by omega)) h1
  · by_cases z : j ≤ 3
    · exact z
    · exact absurd ((nl_gt3 hj).mpr (by omega)) h2
theorem em_0 {k C H D O F U s : Nat} {L : Nat → Nat} {cs ec ep ms yec yep ych : Int32} {fk pn pi ln pg so ed he fr ou rc sn si sf tn ti tf : Nat → Int32} (hI : ni_I C H D O F U s L cs ep yep fk pn pi ln pg so he fr rc sn si sf) (hls : L s < C) (v2 v3 v4 : Int32) : wpX_emit (fun r u' => wpY_emit (fun r' v' => r' = r ∧ i_Rel (k + 5) u' v') ((nI C), (nI H), (nI D), (nI s), yec, yep, cs, ms, (nI O), (nI U), (nI F), ych, fk, pn, pi, ln, pg, rc, sn, si, sf, tn, ti, tf, he, ou, fr) (nI 0) v2 v3 v4) ((nI C), (nI H), (nI D), (nI s), cs, ec, ep, ms, (nI O), (nI F), (nI U), fk, pn, pi, ln, pg, so, ed, he, fr, ou) (nI 0) v2 v3 v4 := by
  have hs := hI.1.2.2.2.2.2
  have hC := hI.1.2.1
  obtain ⟨hl, _⟩ := hI.2.2.1 s hs
  refine xe_op (n := 0) (mA := 7) (mB := -1) (mC := -1) (lB := 0) (vA := v2) (vB := 0) (vC := 0) (by omega) hs hl hls hC (if_neg (by decide)).symm (if_pos rfl).symm (if_pos rfl).symm xm_A0 xm_B0 xm_C0 (by decide) (fun z => ye_0 hs hl hls hC (fun _ => ⟨rfl, ?_⟩) (fun y => absurd z y)) (fun z => ye_0 hs hl hls hC (fun y => absurd y z) (fun _ => ⟨rfl, ni_mk hI⟩))
  · clear hl
    obtain ⟨A, hA, rfl⟩ := nx_r7 z.1
    exact ni_mk (O := 0) (F := 0) (U := 0) (L := fun j => if j = s then L s + 1 else L j) (ni_edit hI hI.2.1 (nv_lnE hI.2.2.1 hls) (nv_pgE (o := 0) (A := A) (B := 0) (K := 0) hI.2.2.2.1 (fun j hj => Nat.le_trans (hI.2.2.1 j hj).2 hC) hs (by omega) (by unfold nv_in; omega)))
theorem em_1 {k C H D O F U s : Nat} {L : Nat → Nat} {cs ec ep ms yec yep ych : Int32} {fk pn pi ln pg so ed he fr ou rc sn si sf tn ti tf : Nat → Int32} (hI : ni_I C H D O F U s L cs ep yep fk pn pi ln pg so he fr rc sn si sf) (hls : L s < C) (v2 v3 v4 : Int32) : wpX_emit (fun r u' => wpY_emit (fun r' v' => r' = r ∧ i_Rel (k + 5) u' v') ((nI C), (nI H), (nI D), (nI s), yec, yep, cs, ms, (nI O), (nI U), (nI F), ych, fk, pn, pi, ln, pg, rc, sn, si, sf, tn, ti, tf, he, ou, fr) (nI 1) v2 v3 v4) ((nI C), (nI H), (nI D), (nI s), cs, ec, ep, ms, (nI O), (nI F), (nI U), fk, pn, pi, ln, pg, so, ed, he, fr, ou) (nI 1) v2 v3 v4 := by
  have hs := hI.1.2.2.2.2.2
  have hC := hI.1.2.1
  obtain ⟨hl, _⟩ := hI.2.2.1 s hs
  refine xe_op (n := 1) (mA := 7) (mB := 7) (mC := -1) (lB := 0) (vA := v2) (vB := v3) (vC := 0) (by omega) hs hl hls hC (if_neg (by decide)).symm (if_neg (by decide)).symm (if_pos rfl).symm xm_A1 xm_B1 xm_C1 (by decide) (fun z => ye_1 hs hl hls hC (fun _ => ⟨rfl, ?_⟩) (fun y => absurd z y)) (fun z => ye_1 hs hl hls hC (fun y => absurd y z) (fun _ => ⟨rfl, ni_mk hI⟩))
  · clear hl
    obtain ⟨A, hA, rfl⟩ := nx_r7 z.1
    obtain ⟨B, hB, rfl⟩ := nx_r7 z.2.1
    exact ni_mk (O := 0) (F := 0) (U := 0) (L := fun j => if j = s then L s + 1 else L j) (ni_edit hI hI.2.1 (nv_lnE hI.2.2.1 hls) (nv_pgE (o := 1) (A := A) (B := B) (K := 0) hI.2.2.2.1 (fun j hj => Nat.le_trans (hI.2.2.1 j hj).2 hC) hs (by omega) (by unfold nv_in; omega)))
theorem em_2 {k C H D O F U s : Nat} {L : Nat → Nat} {cs ec ep ms yec yep ych : Int32} {fk pn pi ln pg so ed he fr ou rc sn si sf tn ti tf : Nat → Int32} (hI : ni_I C H D O F U s L cs ep yep fk pn pi ln pg so he fr rc sn si sf) (hls : L s < C) (v2 v3 v4 : Int32) : wpX_emit (fun r u' => wpY_emit (fun r' v' => r' = r ∧ i_Rel (k + 5) u' v') ((nI C), (nI H), (nI D), (nI s), yec, yep, cs, ms, (nI O), (nI U), (nI F), ych, fk, pn, pi, ln, pg, rc, sn, si, sf, tn, ti, tf, he, ou, fr) (nI 2) v2 v3 v4) ((nI C), (nI H), (nI D), (nI s), cs, ec, ep, ms, (nI O), (nI F), (nI U), fk, pn, pi, ln, pg, so, ed, he, fr, ou) (nI 2) v2 v3 v4 := by
  have hs := hI.1.2.2.2.2.2
  have hC := hI.1.2.1
  obtain ⟨hl, _⟩ := hI.2.2.1 s hs
  refine xe_op (n := 2) (mA := 7) (mB := 3) (mC := 7) (lB := 1) (vA := v2) (vB := v3) (vC := v4) (by omega) hs hl hls hC (if_neg (by decide)).symm (if_neg (by decide)).symm (if_neg (by decide)).symm xm_A2 xm_B2 xm_C2 (by decide) (fun z => ye_2 hs hl hls hC (fun _ => ⟨rfl, ?_⟩) (fun y => absurd z y)) (fun z => ye_2 hs hl hls hC (fun y => absurd y z) (fun _ => ⟨rfl, ni_mk hI⟩))
  · clear hl
    obtain ⟨A, hA, rfl⟩ := nx_r7 z.1
    obtain ⟨B, hB1, hB, rfl⟩ := nx_r13 z.2.1
    obtain ⟨K, hK, rfl⟩ := nx_r7 z.2.2
    exact ni_mk (O := 0) (F := 0) (U := 0) (L := fun j => if j = s then L s + 1 else L j) (ni_edit hI hI.2.1 (nv_lnE hI.2.2.1 hls) (nv_pgE (o := 2) (A := A) (B := B) (K := K) hI.2.2.2.1 (fun j hj => Nat.le_trans (hI.2.2.1 j hj).2 hC) hs (by omega) (by unfold nv_in; omega)))
theorem em_3 {k C H D O F U s : Nat} {L : Nat → Nat} {cs ec ep ms yec yep ych : Int32} {fk pn pi ln pg so ed he fr ou rc sn si sf tn ti tf : Nat → Int32} (hI : ni_I C H D O F U s L cs ep yep fk pn pi ln pg so he fr rc sn si sf) (hls : L s < C) (v2 v3 v4 : Int32) : wpX_emit (fun r u' => wpY_emit (fun r' v' => r' = r ∧ i_Rel (k + 5) u' v') ((nI C), (nI H), (nI D), (nI s), yec, yep, cs, ms, (nI O), (nI U), (nI F), ych, fk, pn, pi, ln, pg, rc, sn, si, sf, tn, ti, tf, he, ou, fr) (nI 3) v2 v3 v4) ((nI C), (nI H), (nI D), (nI s), cs, ec, ep, ms, (nI O), (nI F), (nI U), fk, pn, pi, ln, pg, so, ed, he, fr, ou) (nI 3) v2 v3 v4 := by
  have hs := hI.1.2.2.2.2.2
  have hC := hI.1.2.1
  obtain ⟨hl, _⟩ := hI.2.2.1 s hs
  refine xe_op (n := 3) (mA := 7) (mB := 7) (mC := 3) (lB := 0) (vA := v2) (vB := v3) (vC := v4) (by omega) hs hl hls hC (if_neg (by decide)).symm (if_neg (by decide)).symm (if_neg (by decide)).symm xm_A3 xm_B3 xm_C3 (by decide) (fun z => ye_3 hs hl hls hC (fun _ => ⟨rfl, ?_⟩) (fun y => absurd z y)) (fun z => ye_3 hs hl hls hC (fun y => absurd y z) (fun _ => ⟨rfl, ni_mk hI⟩))
  · clear hl
    obtain ⟨A, hA, rfl⟩ := nx_r7 z.1
    obtain ⟨B, hB, rfl⟩ := nx_r7 z.2.1
    obtain ⟨K, hK, rfl⟩ := nx_r3 z.2.2
    exact ni_mk (O := 0) (F := 0) (U := 0) (L := fun j => if j = s then L s + 1 else L j) (ni_edit hI hI.2.1 (nv_lnE hI.2.2.1 hls) (nv_pgE (o := 3) (A := A) (B := B) (K := K) hI.2.2.2.1 (fun j hj => Nat.le_trans (hI.2.2.1 j hj).2 hC) hs (by omega) (by unfold nv_in; omega)))
theorem em_4 {k C H D O F U s : Nat} {L : Nat → Nat} {cs ec ep ms yec yep ych : Int32} {fk pn pi ln pg so ed he fr ou rc sn si sf tn ti tf : Nat → Int32} (hI : ni_I C H D O F U s L cs ep yep fk pn pi ln pg so he fr rc sn si sf) (hls : L s < C) (v2 v3 v4 : Int32) : wpX_emit (fun r u' => wpY_emit (fun r' v' => r' = r ∧ i_Rel (k + 5) u' v') ((nI C), (nI H), (nI D), (nI s), yec, yep, cs, ms, (nI O), (nI U), (nI F), ych, fk, pn, pi, ln, pg, rc, sn, si, sf, tn, ti, tf, he, ou, fr) (nI 4) v2 v3 v4) ((nI C), (nI H), (nI D), (nI s), cs, ec, ep, ms, (nI O), (nI F), (nI U), fk, pn, pi, ln, pg, so, ed, he, fr, ou) (nI 4) v2 v3 v4 := by
  have hs := hI.1.2.2.2.2.2
  have hC := hI.1.2.1
  obtain ⟨hl, _⟩ := hI.2.2.1 s hs
  refine xe_op (n := 4) (mA := 7) (mB := 3) (mC := 7) (lB := 0) (vA := v2) (vB := v3) (vC := v4) (by omega) hs hl hls hC (if_neg (by decide)).symm (if_neg (by decide)).symm (if_neg (by decide)).symm xm_A4 xm_B4 xm_C4 (by decide) (fun z => ye_4 hs hl hls hC (fun _ => ⟨rfl, ?_⟩) (fun y => absurd z y)) (fun z => ye_4 hs hl hls hC (fun y => absurd y z) (fun _ => ⟨rfl, ni_mk hI⟩))
  · clear hl
    obtain ⟨A, hA, rfl⟩ := nx_r7 z.1
    obtain ⟨B, hB, rfl⟩ := nx_r3 z.2.1
    obtain ⟨K, hK, rfl⟩ := nx_r7 z.2.2
    exact ni_mk (O := 0) (F := 0) (U := 0) (L := fun j => if j = s then L s + 1 else L j) (ni_edit hI hI.2.1 (nv_lnE hI.2.2.1 hls) (nv_pgE (o := 4) (A := A) (B := B) (K := K) hI.2.2.2.1 (fun j hj => Nat.le_trans (hI.2.2.1 j hj).2 hC) hs (by omega) (by unfold nv_in; omega)))
theorem em_5 {k C H D O F U s : Nat} {L : Nat → Nat} {cs ec ep ms yec yep ych : Int32} {fk pn pi ln pg so ed he fr ou rc sn si sf tn ti tf : Nat → Int32} (hI : ni_I C H D O F U s L cs ep yep fk pn pi ln pg so he fr rc sn si sf) (hls : L s < C) (v2 v3 v4 : Int32) : wpX_emit (fun r u' => wpY_emit (fun r' v' => r' = r ∧ i_Rel (k + 5) u' v') ((nI C), (nI H), (nI D), (nI s), yec, yep, cs, ms, (nI O), (nI U), (nI F), ych, fk, pn, pi, ln, pg, rc, sn, si, sf, tn, ti, tf, he, ou, fr) (nI 5) v2 v3 v4) ((nI C), (nI H), (nI D), (nI s), cs, ec, ep, ms, (nI O), (nI F), (nI U), fk, pn, pi, ln, pg, so, ed, he, fr, ou) (nI 5) v2 v3 v4 := by
  have hs := hI.1.2.2.2.2.2
  have hC := hI.1.2.1
  obtain ⟨hl, _⟩ := hI.2.2.1 s hs
  refine xe_op (n := 5) (mA := 7) (mB := nI C) (mC := -1) (lB := 0) (vA := v2) (vB := v3) (vC := 0) (by omega) hs hl hls hC (if_neg (by decide)).symm (if_neg (nc_m1 (by omega))).symm (if_pos rfl).symm xm_A5 xm_B5 xm_C5 (by decide) (fun z => ye_5 hs hl hls hC (fun _ => ⟨rfl, ?_⟩) (fun y => absurd z y)) (fun z => ye_5 hs hl hls hC (fun y => absurd y z) (fun _ => ⟨rfl, ni_mk hI⟩))
  · clear hl
    obtain ⟨A, hA, rfl⟩ := nx_r7 z.1
    obtain ⟨B, hB, rfl⟩ := nx_of (n := C) (by omega) z.2.1
    exact ni_mk (O := 0) (F := 0) (U := 0) (L := fun j => if j = s then L s + 1 else L j) (ni_edit hI hI.2.1 (nv_lnE hI.2.2.1 hls) (nv_pgE (o := 5) (A := A) (B := B) (K := 0) hI.2.2.2.1 (fun j hj => Nat.le_trans (hI.2.2.1 j hj).2 hC) hs (by omega) (by unfold nv_in; omega)))
theorem em_6 {k C H D O F U s : Nat} {L : Nat → Nat} {cs ec ep ms yec yep ych : Int32} {fk pn pi ln pg so ed he fr ou rc sn si sf tn ti tf : Nat → Int32} (hI : ni_I C H D O F U s L cs ep yep fk pn pi ln pg so he fr rc sn si sf) (hls : L s < C) (v2 v3 v4 : Int32) : wpX_emit (fun r u' => wpY_emit (fun r' v' => r' = r ∧ i_Rel (k + 5) u' v') ((nI C), (nI H), (nI D), (nI s), yec, yep, cs, ms, (nI O), (nI U), (nI F), ych, fk, pn, pi, ln, pg, rc, sn, si, sf, tn, ti, tf, he, ou, fr) (nI 6) v2 v3 v4) ((nI C), (nI H), (nI D), (nI s), cs, ec, ep, ms, (nI O), (nI F), (nI U), fk, pn, pi, ln, pg, so, ed, he, fr, ou) (nI 6) v2 v3 v4 := by
  have hs := hI.1.2.2.2.2.2
  have hC := hI.1.2.1
  obtain ⟨hl, _⟩ := hI.2.2.1 s hs
  refine xe_op (n := 6) (mA := 7) (mB := nI C) (mC := -1) (lB := 0) (vA := v2) (vB := v3) (vC := 0) (by omega) hs hl hls hC (if_neg (by decide)).symm (if_neg (nc_m1 (by omega))).symm (if_pos rfl).symm xm_A6 xm_B6 xm_C6 (by decide) (fun z => ye_6 hs hl hls hC (fun _ => ⟨rfl, ?_⟩) (fun y => absurd z y)) (fun z => ye_6 hs hl hls hC (fun y => absurd y z) (fun _ => ⟨rfl, ni_mk hI⟩))
  · clear hl
    obtain ⟨A, hA, rfl⟩ := nx_r7 z.1
    obtain ⟨B, hB, rfl⟩ := nx_of (n := C) (by omega) z.2.1
    exact ni_mk (O := 0) (F := 0) (U := 0) (L := fun j => if j = s then L s + 1 else L j) (ni_edit hI hI.2.1 (nv_lnE hI.2.2.1 hls) (nv_pgE (o := 6) (A := A) (B := B) (K := 0) hI.2.2.2.1 (fun j hj => Nat.le_trans (hI.2.2.1 j hj).2 hC) hs (by omega) (by unfold nv_in; omega)))
theorem em_7 {k C H D O F U s : Nat} {L : Nat → Nat} {cs ec ep ms yec yep ych : Int32} {fk pn pi ln pg so ed he fr ou rc sn si sf tn ti tf : Nat → Int32} (hI : ni_I C H D O F U s L cs ep yep fk pn pi ln pg so he fr rc sn si sf) (hls : L s < C) (v2 v3 v4 : Int32) : wpX_emit (fun r u' => wpY_emit (fun r' v' => r' = r ∧ i_Rel (k + 5) u' v') ((nI C), (nI H), (nI D), (nI s), yec, yep, cs, ms, (nI O), (nI U), (nI F), ych, fk, pn, pi, ln, pg, rc, sn, si, sf, tn, ti, tf, he, ou, fr) (nI 7) v2 v3 v4) ((nI C), (nI H), (nI D), (nI s), cs, ec, ep, ms, (nI O), (nI F), (nI U), fk, pn, pi, ln, pg, so, ed, he, fr, ou) (nI 7) v2 v3 v4 := by
  have hs := hI.1.2.2.2.2.2
  have hC := hI.1.2.1
  obtain ⟨hl, _⟩ := hI.2.2.1 s hs
  refine xe_op (n := 7) (mA := nI C) (mB := -1) (mC := -1) (lB := 0) (vA := v2) (vB := 0) (vC := 0) (by omega) hs hl hls hC (if_neg (nc_m1 (by omega))).symm (if_pos rfl).symm (if_pos rfl).symm xm_A7 xm_B7 xm_C7 (by decide) (fun z => ye_7 hs hl hls hC (fun _ => ⟨rfl, ?_⟩) (fun y => absurd z y)) (fun z => ye_7 hs hl hls hC (fun y => absurd y z) (fun _ => ⟨rfl, ni_mk hI⟩))
  · clear hl
    obtain ⟨A, hA, rfl⟩ := nx_of (n := C) (by omega) z.1
    exact ni_mk (O := 0) (F := 0) (U := 0) (L := fun j => if j = s then L s + 1 else L j) (ni_edit hI hI.2.1 (nv_lnE hI.2.2.1 hls) (nv_pgE (o := 7) (A := A) (B := 0) (K := 0) hI.2.2.2.1 (fun j hj => Nat.le_trans (hI.2.2.1 j hj).2 hC) hs (by omega) (by unfold nv_in; omega)))
theorem em_8 {k C H D O F U s : Nat} {L : Nat → Nat} {cs ec ep ms yec yep ych : Int32} {fk pn pi ln pg so ed he fr ou rc sn si sf tn ti tf : Nat → Int32} (hI : ni_I C H D O F U s L cs ep yep fk pn pi ln pg so he fr rc sn si sf) (hls : L s < C) (v2 v3 v4 : Int32) : wpX_emit (fun r u' => wpY_emit (fun r' v' => r' = r ∧ i_Rel (k + 5) u' v') ((nI C), (nI H), (nI D), (nI s), yec, yep, cs, ms, (nI O), (nI U), (nI F), ych, fk, pn, pi, ln, pg, rc, sn, si, sf, tn, ti, tf, he, ou, fr) (nI 8) v2 v3 v4) ((nI C), (nI H), (nI D), (nI s), cs, ec, ep, ms, (nI O), (nI F), (nI U), fk, pn, pi, ln, pg, so, ed, he, fr, ou) (nI 8) v2 v3 v4 := by
  have hs := hI.1.2.2.2.2.2
  have hC := hI.1.2.1
  obtain ⟨hl, _⟩ := hI.2.2.1 s hs
  refine xe_op (n := 8) (mA := -1) (mB := -1) (mC := -1) (lB := 0) (vA := 0) (vB := 0) (vC := 0) (by omega) hs hl hls hC (if_pos rfl).symm (if_pos rfl).symm (if_pos rfl).symm xm_A8 xm_B8 xm_C8 (by decide) (fun z => ye_8 hs hl hls hC (fun _ => ⟨rfl, ?_⟩) (fun y => absurd z y)) (fun z => ye_8 hs hl hls hC (fun y => absurd y z) (fun _ => ⟨rfl, ni_mk hI⟩))
  · clear hl
    exact ni_mk (O := 0) (F := 0) (U := 0) (L := fun j => if j = s then L s + 1 else L j) (ni_edit hI hI.2.1 (nv_lnE hI.2.2.1 hls) (nv_pgE (o := 8) (A := 0) (B := 0) (K := 0) hI.2.2.2.1 (fun j hj => Nat.le_trans (hI.2.2.1 j hj).2 hC) hs (by omega) (by unfold nv_in; omega)))
theorem em_9 {k C H D O F U s : Nat} {L : Nat → Nat} {cs ec ep ms yec yep ych : Int32} {fk pn pi ln pg so ed he fr ou rc sn si sf tn ti tf : Nat → Int32} (hI : ni_I C H D O F U s L cs ep yep fk pn pi ln pg so he fr rc sn si sf) (hls : L s < C) (v2 v3 v4 : Int32) : wpX_emit (fun r u' => wpY_emit (fun r' v' => r' = r ∧ i_Rel (k + 5) u' v') ((nI C), (nI H), (nI D), (nI s), yec, yep, cs, ms, (nI O), (nI U), (nI F), ych, fk, pn, pi, ln, pg, rc, sn, si, sf, tn, ti, tf, he, ou, fr) (nI 9) v2 v3 v4) ((nI C), (nI H), (nI D), (nI s), cs, ec, ep, ms, (nI O), (nI F), (nI U), fk, pn, pi, ln, pg, so, ed, he, fr, ou) (nI 9) v2 v3 v4 := by
  have hs := hI.1.2.2.2.2.2
  have hC := hI.1.2.1
  obtain ⟨hl, _⟩ := hI.2.2.1 s hs
  refine xe_op (n := 9) (mA := 7) (mB := -1) (mC := -1) (lB := 0) (vA := v2) (vB := 0) (vC := 0) (by omega) hs hl hls hC (if_neg (by decide)).symm (if_pos rfl).symm (if_pos rfl).symm xm_A9 xm_B9 xm_C9 (by decide) (fun z => ye_9 hs hl hls hC (fun _ => ⟨rfl, ?_⟩) (fun y => absurd z y)) (fun z => ye_9 hs hl hls hC (fun y => absurd y z) (fun _ => ⟨rfl, ni_mk hI⟩))
  · clear hl
    obtain ⟨A, hA, rfl⟩ := nx_r7 z.1
    exact ni_mk (O := 0) (F := 0) (U := 0) (L := fun j => if j = s then L s + 1 else L j) (ni_edit hI hI.2.1 (nv_lnE hI.2.2.1 hls) (nv_pgE (o := 9) (A := A) (B := 0) (K := 0) hI.2.2.2.1 (fun j hj => Nat.le_trans (hI.2.2.1 j hj).2 hC) hs (by omega) (by unfold nv_in; omega)))
theorem i_vc_emit {k : Nat} {u : SX} {v : SY} (I : i_Rel k u v) (hk : k + 5 ≤ 2563) (v1 : Int32) (v2 : Int32) (v3 : Int32) (v4 : Int32) : wpX_emit (fun r u' => wpY_emit (fun r' v' => r' = r ∧ i_Rel (k + 5) u' v') v v1 v2 v3 v4) u v1 v2 v3 v4 := by
  have J : i_Rel (k + 5) u v := i_up I
  obtain ⟨C, H, D, O, F, U, s, L, cs, ec, ep, ms, yec, yep, ych, fk, pn, pi, ln, pg, so, ed, he, fr, ou, rc, sn, si, sf, tn, ti, tf, rfl, rfl, hI⟩ := I
  have hs := hI.1.2.2.2.2.2
  have hC := hI.1.2.1
  obtain ⟨hl, hlC⟩ := hI.2.2.1 s hs
  rcases nn_rng v1 9 (by omega) with ⟨n, hn, rfl⟩ | ⟨h1, h2, h3, h4⟩ | ⟨h1, h2, h3, h4⟩
  · by_cases hls : L s < C
    · have ho : n = 0 ∨ n = 1 ∨ n = 2 ∨ n = 3 ∨ n = 4 ∨ n = 5 ∨ n = 6 ∨ n = 7 ∨ n = 8 ∨ n = 9 := by omega
      rcases ho with rfl | rfl | rfl | rfl | rfl | rfl | rfl | rfl | rfl | rfl
      · exact em_0 hI hls v2 v3 v4
      · exact em_1 hI hls v2 v3 v4
      · exact em_2 hI hls v2 v3 v4
      · exact em_3 hI hls v2 v3 v4
      · exact em_4 hI hls v2 v3 v4
      · exact em_5 hI hls v2 v3 v4
      · exact em_6 hI hls v2 v3 v4
      · exact em_7 hI hls v2 v3 v4
      · exact em_8 hI hls v2 v3 v4
      · exact em_9 hI hls v2 v3 v4
    · have cs1 : (nI s).toNatClampNeg = s := nI_clamp (by omega)
      have vs : vp_in (nI s) 4 := vp_in_nI hs (by decide)
      have nl : ¬ ln (nI s).toNatClampNeg < nI C := by
        rw [cs1, hl]
        exact nI_nlt (by omega) (by omega)
      unfold wpX_emit wpY_emit
      exact xs_wi (nI_pos (by omega)) (nn_n2 hn (by decide)) (br_f (by decide) ⟨vs, br_f nl (br_f (nI_pos (by omega)) (br_f (nn_n2 hn (by decide)) ⟨vs, br_f nl ⟨rfl, J⟩⟩))⟩)
  · unfold wpX_emit wpY_emit
    exact xs_wl h1 (br_t rfl (br_t h1 ⟨rfl, J⟩))
  · unfold wpX_emit wpY_emit
    exact xs_wh h1 h3 (br_t rfl (br_f h1 (br_t h3 ⟨rfl, J⟩)))
theorem nl_lt17 {j : Nat} (h : j < 2 ^ 31) : (nI j < (17 : Int32)) ↔ j < 17 := nI_ltI (b := 17) h (by decide)
theorem nl_eq17 {j : Nat} (h : j < 2 ^ 31) : (nI j = (17 : Int32)) ↔ j = 17 := nI_eq (b := 17) h (by decide)
theorem nl_eq18 {j : Nat} (h : j < 2 ^ 31) : (nI j = (18 : Int32)) ↔ j = 18 := nI_eq (b := 18) h (by decide)
theorem nl_eq19 {j : Nat} (h : j < 2 ^ 31) : (nI j = (19 : Int32)) ↔ j = 19 := nI_eq (b := 19) h (by decide)
theorem nl_gt19 {j : Nat} (h : j < 2 ^ 31) : ((19 : Int32) < nI j) ↔ 19 < j := nI_ltI (a := 19) (by decide) h
theorem nn_sb {j : Nat} (c : Nat) (h : c ≤ j) : nI j - nI c = nI (j - c) := pk_sub h
theorem i_vc_info {k : Nat} {u : SX} {v : SY} (I : i_Rel k u v) (hk : k + 5 ≤ 2563) (v1 : Int32) : wpX_info (fun r => wpY_info (fun r' => r' = r ∧ i_Rel (k + 5) u v) v v1) u v1 := by
  have J : i_Rel (k + 5) u v := i_up I
  obtain ⟨C, H, D, O, F, U, s, L, cs, ec, ep, ms, yec, yep, ych, fk, pn, pi, ln, pg, so, ed, he, fr, ou, rc, sn, si, sf, tn, ti, tf, rfl, rfl, hI⟩ := I
  unfold wpX_info wpY_info
  by_cases a0 : v1 < 0
  · have a4 : v1 < 4 := Int32.lt_trans a0 (by decide)
    have a7 : v1 < 7 := Int32.lt_trans a0 (by decide)
    have a10 : v1 < 10 := Int32.lt_trans a0 (by decide)
    have a14 : v1 < 14 := Int32.lt_trans a0 (by decide)
    have ne : ∀ c : Int32, 0 ≤ c → ¬ v1 = c := fun c hc z => by
      rw [z] at a0
      exact absurd a0 (Int32.not_lt.mpr hc)
    refine xs_wl a0 (br_t rfl (xs_wl a4 (br_t rfl (xs_wl a7 (br_t rfl (xs_wl a10 (br_t rfl (br_t a14 (br_t a0 ?_)))))))))
    unfold wY_info_16 wY_info_36 wY_info_58 wY_info_80
    exact br_t a4 (br_t a7 (br_t a10 (br_f (ne _ (by decide)) (br_f (ne _ (by decide)) (br_f (ne _ (by decide)) (br_f (ne _ (by decide)) (br_f (ne _ (by decide)) (br_f (ne _ (by decide)) ⟨rfl, J⟩))))))))
  · obtain ⟨j, hj, rfl⟩ := nI_of a0
    by_cases b3 : j ≤ 3
    · have g3 : ¬ (3 : Int32) < nI j := fun z => by
        have := (nl_gt3 hj).mp z
        omega
      exact xs_wi a0 g3 (br_f (by decide) ⟨vp_in_nI (by omega) (by decide), br_f a0 (br_f g3 ⟨vp_in_nI (by omega) (by decide), rfl, J⟩)⟩)
    · have g3 : (3 : Int32) < nI j := (nl_gt3 hj).mpr (by omega)
      have g4 : ¬ nI j < (4 : Int32) := fun z => by
        have := (nl_lt4 hj).mp z
        omega
      by_cases b6 : j ≤ 6
      · have g6 : ¬ (6 : Int32) < nI j := fun z => by
          have := (nl_gt6 hj).mp z
          omega
        have w : vp_in (nI j - 3) 4 := pk_in (j - 3) 4 (by omega) (nn_sb 3 (by omega)) (by decide)
        refine xs_wh a0 g3 (br_t rfl (xs_wi g4 g6 (br_f (by decide) ⟨w, br_f a0 (br_t g3 ?_)⟩)))
        unfold wY_info_16
        exact br_f g4 (br_f g6 ⟨w, rfl, J⟩)
      · have g6 : (6 : Int32) < nI j := (nl_gt6 hj).mpr (by omega)
        have g7 : ¬ nI j < (7 : Int32) := fun z => by
          have := (nl_lt7 hj).mp z
          omega
        by_cases b9 : j ≤ 9
        · have g9 : ¬ (9 : Int32) < nI j := fun z => by
            have := (nl_gt9 hj).mp z
            omega
          have w : vp_in (nI j - 6) 4 := pk_in (j - 6) 4 (by omega) (nn_sb 6 (by omega)) (by decide)
          refine xs_wh a0 g3 (br_t rfl (xs_wh g4 g6 (br_t rfl (xs_wi g7 g9 (br_f (by decide) ⟨w, br_f a0 (br_t g3 ?_)⟩)))))
          unfold wY_info_16 wY_info_36
          exact br_f g4 (br_t g6 (br_f g7 (br_f g9 ⟨w, rfl, J⟩)))
        · have g9 : (9 : Int32) < nI j := (nl_gt9 hj).mpr (by omega)
          have g10 : ¬ nI j < (10 : Int32) := fun z => by
            have := (nl_lt10 hj).mp z
            omega
          by_cases b13 : j ≤ 13
          · have g13 : ¬ (13 : Int32) < nI j := fun z => by
              have := (nl_gt13 hj).mp z
              omega
            have w : vp_in (nI j - 10) 4 := pk_in (j - 10) 4 (by omega) (nn_sb 10 (by omega)) (by decide)
            refine xs_wh a0 g3 (br_t rfl (xs_wh g4 g6 (br_t rfl (xs_wh g7 g9 (br_t rfl (xs_wi g10 g13 (br_f (by decide) ⟨w, br_f a0 (br_t g3 ?_)⟩)))))))
            unfold wY_info_16 wY_info_36 wY_info_58
            exact br_f g4 (br_t g6 (br_f g7 (br_t g9 (br_f g10 (br_f g13 ⟨w, rfl, J⟩)))))
          · have g13 : (13 : Int32) < nI j := (nl_gt13 hj).mpr (by omega)
            have g14 : ¬ nI j < (14 : Int32) := fun z => by
              have := (nl_lt14 hj).mp z
              omega
            refine xs_wh a0 g3 (br_t rfl (xs_wh g4 g6 (br_t rfl (xs_wh g7 g9 (br_t rfl (xs_wh g10 g13 (br_t rfl (br_f g14 ?_))))))))
            unfold wY_info_16 wY_info_36 wY_info_58 wY_info_80
            by_cases b19 : j ≤ 19
            · have ho : j = 14 ∨ j = 15 ∨ j = 16 ∨ j = 17 ∨ j = 18 ∨ j = 19 := by omega
              rcases ho with rfl | rfl | rfl | rfl | rfl | rfl
              · exact br_f (by decide) (br_t (by decide) (br_f a0 (br_t g3 (br_f g4 (br_t g6 (br_f g7 (br_t g9 (br_f g10 (br_t g13 (br_t (by decide) ⟨rfl, J⟩))))))))))
              · exact br_f (by decide) (br_f (by decide) (br_t (by decide) (br_f a0 (br_t g3 (br_f g4 (br_t g6 (br_f g7 (br_t g9 (br_f g10 (br_t g13 (br_f (by decide) (br_t (by decide) ⟨rfl, J⟩))))))))))))
              · exact br_f (by decide) (br_f (by decide) (br_f (by decide) (br_t (by decide) (br_f a0 (br_t g3 (br_f g4 (br_t g6 (br_f g7 (br_t g9 (br_f g10 (br_t g13 (br_f (by decide) (br_f (by decide) (br_t (by decide) ⟨rfl, J⟩))))))))))))))
              · exact br_f (by decide) (br_f (by decide) (br_f (by decide) (br_f (by decide) (br_t (by decide) (br_f a0 (br_t g3 (br_f g4 (br_t g6 (br_f g7 (br_t g9 (br_f g10 (br_t g13 (br_f (by decide) (br_f (by decide) (br_f (by decide) (br_t (by decide) ⟨rfl, J⟩))))))))))))))))
              · exact br_f (by decide) (br_f (by decide) (br_f (by decide) (br_f (by decide) (br_f (by decide) (br_t (by decide) (br_f a0 (br_t g3 (br_f g4 (br_t g6 (br_f g7 (br_t g9 (br_f g10 (br_t g13 (br_f (by decide) (br_f (by decide) (br_f (by decide) (br_f (by decide) (br_t (by decide) ⟨rfl, J⟩))))))))))))))))))
              · exact br_f (by decide) (br_f (by decide) (br_f (by decide) (br_f (by decide) (br_f (by decide) (br_f (by decide) (br_t (by decide) (br_f a0 (br_t g3 (br_f g4 (br_t g6 (br_f g7 (br_t g9 (br_f g10 (br_t g13 (br_f (by decide) (br_f (by decide) (br_f (by decide) (br_f (by decide) (br_f (by decide) (br_t (by decide) ⟨rfl, J⟩))))))))))))))))))))
            · have ne : ∀ (c : Nat), c ≤ 19 → ¬ nI j = nI c := fun c hc z => by
                have := (nI_eq hj (by omega)).mp z
                omega
              exact br_t ((nl_gt19 hj).mpr (by omega)) (br_f a0 (br_t g3 (br_f g4 (br_t g6 (br_f g7 (br_t g9 (br_f g10 (br_t g13 (br_f (ne 14 (by omega)) (br_f (ne 15 (by omega)) (br_f (ne 16 (by omega)) (br_f (ne 17 (by omega)) (br_f (ne 18 (by omega)) (br_f (ne 19 (by omega)) ⟨rfl, J⟩))))))))))))))
theorem xs_clamp {post : Int32 → Prop} {x : Int32} {lo hi c : Nat} (hp : ∀ P : Int32 → Prop, P (nI c) → ((nI lo ≤ x → ((x ≤ nI hi → P x) ∧ (¬ x ≤ nI hi → P (nI hi)))) ∧ (¬ nI lo ≤ x → P (nI lo)))) (h : post (nI c)) : wpX_clamp post x (nI lo) (nI hi) := by
  unfold wpX_clamp
  exact hp post h
theorem ni_z : na_fi (fun _ => (0 : Int32)) 0 4 0 = fun _ => 0 := by
  funext j
  unfold na_fi
  split <;> rfl
section
variable {cc hc md sel cs ec ep ms oc fc uc : Int32} {fk pn pi ln pg so ed he fr ou : Nat → Int32}
theorem x0_144 {post : SX → Prop} (h : post (cc, hc, md, 0, 30, ec, ep, 20, 0, 0, 0, fk, (na_fi pn 0 4 1), (na_fi pi 0 4 0), (na_fi ln 0 4 0), pg, so, ed, he, fr, ou)) : ∃ n, wX_init_144 post cc hc md sel cs ec ep ms oc fc uc n 0 fk pn pi ln pg so ed he fr ou := by
  have K : ∀ d i, i + d = 4 → wX_init_144 post cc hc md sel cs ec ep ms oc fc uc (d + 1) (nI i) fk (na_fi pn 0 i 1) (na_fi pi 0 i 0) (na_fi ln 0 i 0) pg so ed he fr ou := by
    intro d
    induction d with
    | zero =>
      intro i hi
      obtain rfl : i = 4 := by omega
      rw [wX_init_144]
      refine br_t (by decide) ?_
      unfold wpX_resetAfterEdit wpX_clearMachine
      exact h
    | succ d ih =>
      intro i hi
      rw [wX_init_144]
      have vi : vp_in (nI i) 4 := vp_in_nI (by omega) (by decide)
      have ci : (nI i).toNatClampNeg = i := nI_clamp (by omega)
      have e : ∀ (f : Nat → Int32) (w : Int32), upd (na_fi f 0 i w) (nI i).toNatClampNeg w = na_fi f 0 (i + 1) w := fun f w => by rw [ci, na_fiS, Nat.zero_add]
      exact br_f (nn_nge 4 (by omega) (by decide)) ⟨vi, nm_r (e pn 1) ⟨vi, nm_r (e pi 0) ⟨vi, nm_r (e ln 0) (nm_r (nI_1 i) (ih (i + 1) (by omega)))⟩⟩⟩
  have q := K 4 0 (by omega)
  rw [na_fi0, na_fi0, na_fi0] at q
  exact ⟨5, q⟩
theorem x0_121 {post : SX → Prop} (h : post (cc, hc, md, 0, 30, ec, ep, 20, 0, 0, 0, (na_fi fk 0 4 1), (na_fi pn 0 4 1), (na_fi pi 0 4 0), (na_fi ln 0 4 0), pg, so, ed, he, fr, ou)) : ∃ n, wX_init_121 post cc hc md sel cs ec ep ms oc fc uc n 0 fk pn pi ln pg so ed he fr ou := by
  have K : ∀ d i, i + d = 4 → wX_init_121 post cc hc md sel cs ec ep ms oc fc uc (d + 1) (nI i) (na_fi fk 0 i 1) pn pi ln pg so ed he fr ou := by
    intro d
    induction d with
    | zero =>
      intro i hi
      obtain rfl : i = 4 := by omega
      rw [wX_init_121]
      exact br_t (by decide) (x0_144 h)
    | succ d ih =>
      intro i hi
      rw [wX_init_121]
      refine br_f (nn_nge 4 (by omega) (by decide)) ⟨vp_in_nI (by omega) (by decide), nm_r ?_ (nm_r (nI_1 i) (ih (i + 1) (by omega)))⟩
      rw [nI_clamp (by omega), na_fiS, Nat.zero_add]
  have q := K 4 0 (by omega)
  rw [na_fi0] at q
  exact ⟨5, q⟩
end
section
variable {cc hc md sel yec yep cs ms oc uc fc ych : Int32} {fk pn pi ln pg rc sn si sf tn ti tf he ou fr : Nat → Int32}
theorem y0_225 {post : SY → Prop} (h : post (cc, hc, md, sel, yec, yep, cs, ms, oc, uc, fc, ych, (na_fi fk 0 4 1), (na_fi pn 0 4 1), (na_fi pi 0 4 0), ln, pg, rc, sn, si, sf, tn, ti, tf, he, ou, fr)) : ∃ n, wY_init_225 post cc hc md sel yec yep cs ms oc uc fc ych n 0 fk pn pi ln pg rc sn si sf tn ti tf he ou fr := by
  have K : ∀ d i, i + d = 4 → wY_init_225 post cc hc md sel yec yep cs ms oc uc fc ych (d + 1) (nI i) (na_fi fk 0 i 1) (na_fi pn 0 i 1) (na_fi pi 0 i 0) ln pg rc sn si sf tn ti tf he ou fr := by
    intro d
    induction d with
    | zero =>
      intro i hi
      obtain rfl : i = 4 := by omega
      rw [wY_init_225]
      exact br_t (by decide) h
    | succ d ih =>
      intro i hi
      rw [wY_init_225]
      have vi : vp_in (nI i) 4 := vp_in_nI (by omega) (by decide)
      have ci : (nI i).toNatClampNeg = i := nI_clamp (by omega)
      have e : ∀ (f : Nat → Int32) (w : Int32), upd (na_fi f 0 i w) (nI i).toNatClampNeg w = na_fi f 0 (i + 1) w := fun f w => by rw [ci, na_fiS, Nat.zero_add]
      exact br_f (nn_nge 4 (by omega) (by decide)) ⟨vi, nm_r (e fk 1) ⟨vi, nm_r (e pn 1) ⟨vi, nm_r (e pi 0) (nm_r (nI_1 i) (ih (i + 1) (by omega)))⟩⟩⟩
  have q := K 4 0 (by omega)
  rw [na_fi0, na_fi0, na_fi0] at q
  exact ⟨5, q⟩
end
theorem i_vc0 (k0 : Int32) (k1 : Int32) (k2 : Int32) : wpX_init (fun u => wpY_init (fun v => i_Rel 3 u v) k0 k1 k2) k0 k1 k2 := by
  obtain ⟨C, hC1, hC2, hC⟩ := ni_cl k0 8 32 (by omega) (by omega)
  obtain ⟨H, hH1, hH2, hH⟩ := ni_cl k1 8 32 (by omega) (by omega)
  obtain ⟨D, hD1, hD2, hD⟩ := ni_cl k2 1 8 (by omega) (by omega)
  have hfi : ∀ (w : Int32) (j : Nat), j < 4 → na_fi (fun _ => (0 : Int32)) 0 4 w j = w := fun w j hj => na_fiI (by omega)
  unfold wpX_init
  refine xs_clamp hC (xs_clamp hH (xs_clamp hD (x0_121 ?_)))
  unfold wpY_init
  refine hC (fun z => wY_init_167 _ k1 k2 z 0 0 0 0 0 (-1) 30 20 0 0 0 0 (fun _ => 0) (fun _ => 0) (fun _ => 0) (fun _ => 0) (fun _ => 0) (fun _ => 0) (fun _ => 0) (fun _ => 0) (fun _ => 0) (fun _ => 0) (fun _ => 0) (fun _ => 0) (fun _ => 0) (fun _ => 0) (fun _ => 0)) ?_
  unfold wY_init_167
  refine hH (fun z => wY_init_194 _ k2 z (nI C) 0 0 0 0 (-1) 30 20 0 0 0 0 (fun _ => 0) (fun _ => 0) (fun _ => 0) (fun _ => 0) (fun _ => 0) (fun _ => 0) (fun _ => 0) (fun _ => 0) (fun _ => 0) (fun _ => 0) (fun _ => 0) (fun _ => 0) (fun _ => 0) (fun _ => 0) (fun _ => 0)) ?_
  unfold wY_init_194
  refine hD (fun z => ∃ n225 : Nat, wY_init_225 _ (nI C) (nI H) z 0 0 (-1) 30 20 0 0 0 0 n225 0 (fun _ => 0) (fun _ => 0) (fun _ => 0) (fun _ => 0) (fun _ => 0) (fun _ => 0) (fun _ => 0) (fun _ => 0) (fun _ => 0) (fun _ => 0) (fun _ => 0) (fun _ => 0) (fun _ => 0) (fun _ => 0) (fun _ => 0)) (y0_225 ?_)
  rw [ni_z]
  refine ni_mk (O := 0) (F := 0) (U := 0) (s := 0) (L := fun _ => 0) ⟨⟨hC1, hC2, hH2, hD1, hD2, by omega⟩, ⟨fun j hj => Or.inr (hfi 1 j hj), fun j hj => Or.inr (hfi 1 j hj), fun j hj => Or.inl rfl⟩, fun j hj => ⟨rfl, Nat.zero_le _⟩, fun b hb p hp => absurd hp (Nat.not_lt_zero _), nv_M0, Or.inl rfl, fun z => absurd z (by decide)⟩
