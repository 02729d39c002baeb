/-! a block is entered -/
theorem nr_frame {so rc sn si sf so' rc' sn' si' sf' : Nat → Int32} {q : Nat} (h : nr_pt so rc sn si sf q) (hr : rc' q = rc q) (hs : ∀ l, l < 8 → so' (q * 8 + l) = so (q * 8 + l) ∧ sn' (q * 8 + l) = sn (q * 8 + l) ∧ si' (q * 8 + l) = si (q * 8 + l) ∧ sf' (q * 8 + l) = sf (q * 8 + l)) : nr_pt so' rc' sn' si' sf' q := by
  rcases h with ⟨h1, h2⟩ | ⟨h1, h2⟩
  · refine Or.inl ⟨hr.trans h1, fun l hl => ?_⟩
    rw [(hs l hl).1]
    exact h2 l hl
  · refine Or.inr ⟨hr.trans h1, fun l hl => ?_⟩
    obtain ⟨e1, e2, e3, e4⟩ := hs l hl
    rw [e1, e2, e3, e4]
    exact h2 l hl
theorem nr_ent {b : Nat} {L : Nat → Nat} {so rc sn si sf so' rc' sn' si' sf' : Nat → Int32} (hS : nr_S b L so rc sn si sf) (hL : ∀ j, j < 4 → L j ≤ 32) (hb : b < 4) (hz : ∀ j, b * 33 < j → j < 132 → rc j = 0) (hr : rc' = upd rc (b * 33) 1) (hA : ∀ j, j < b * 264 → so' j = so j ∧ sn' j = sn j ∧ si' j = si j ∧ sf' j = sf j) (hC : ∀ l, l < 8 → ∃ c, nc_cr (so' (b * 264 + l)) (sn' (b * 264 + l)) (si' (b * 264 + l)) (sf' (b * 264 + l)) c) (hD : ∀ j, b * 264 + 8 ≤ j → j < b * 264 + (L b + 1) * 8 → so' j = -1) : nr_S (b + 1) L so' rc' sn' si' sf' := by
  subst hr
  intro b' hb' p hp
  by_cases e : b' = b
  · subst e
    have hLb := hL b' hb
    by_cases d : p = 0
    · subst d
      refine Or.inr ⟨pk_us, fun l hl => ?_⟩
      rw [show (b' * 33 + 0) * 8 + l = b' * 264 + l from by omega]
      exact hC l hl
    · refine Or.inl ⟨?_, fun l hl => ?_⟩
      · rw [pk_un (by omega)]
        exact hz _ (by omega) (by omega)
      · exact hD _ (by omega) (by omega)
  · have hLb := hL b' (by omega)
    refine nr_frame (hS b' (by omega) p hp) (pk_un (by omega)) fun l hl => hA _ (by omega)
theorem nr_c1 : nc_cr 1 1 0 0 1 := nc_crN (n := 1) (i := 0) (by omega) (by omega)
theorem nr_c2 : nc_cr 2 0 1 0 2 := nc_crN (n := 0) (i := 1) (by omega) (by omega)
theorem nr_ent0 {L : Nat → Nat} {so rc sn si sf : Nat → Int32} (hL : ∀ j, j < 4 → L j ≤ 32) (hz : ∀ j, 0 < j → j < 132 → rc j = 0) : nr_S 1 L (na_fi (na_fi so 0 ((L 0 + 1) * 8) (-1)) 0 8 1) (upd rc 0 1) (na_fi sn 0 8 1) (na_fi si 0 8 0) (na_fi sf 0 8 0) := by
  refine nr_ent (b := 0) (so := so) (rc := rc) (sn := sn) (si := si) (sf := sf) (fun b hb => absurd hb (by omega)) hL (by omega) (fun j h1 h2 => hz j (by omega) h2) rfl (fun j hj => absurd hj (by omega)) (fun l hl => ?_) (fun j h1 h2 => ?_)
  · rw [na_fiI (by omega), na_fiI (by omega), na_fiI (by omega), na_fiI (by omega)]
    exact ⟨1, nr_c1⟩
  · rw [na_fiO (by omega), na_fiI (by omega)]
theorem nr_entK {b : Nat} {L : Nat → Nat} {so rc sn si sf : Nat → Int32} {n i : Int32} (hS : nr_S b L so rc sn si sf) (hL : ∀ j, j < 4 → L j ≤ 32) (hb : b < 4) (hz : ∀ j, b * 33 < j → j < 132 → rc j = 0) (hn : n = 0 ∨ n = 1) (hi : i = 0 ∨ i = 1 ∨ i = 2) : nr_S (b + 1) L (upd (upd (na_fi (na_fi so (b * 264) ((L b + 1) * 8) (-1)) (b * 264) 8 1) (b * 264) 2) (b * 264 + 1) (n + 2 * i)) (upd rc (b * 33) 1) (upd (upd (na_fi sn (b * 264) 8 1) (b * 264) 0) (b * 264 + 1) n) (upd (upd (na_fi si (b * 264) 8 0) (b * 264) 1) (b * 264 + 1) i) (na_fi sf (b * 264) 8 0) := by
  refine nr_ent (b := b) (so := so) (rc := rc) (sn := sn) (si := si) (sf := sf) hS hL hb hz rfl (fun j hj => ⟨?_, ?_, ?_, ?_⟩) (fun l hl => ?_) (fun j h1 h2 => ?_)
  · rw [pk_un (by omega), pk_un (by omega), na_fiO (by omega), na_fiO (by omega)]
  · rw [pk_un (by omega), pk_un (by omega), na_fiO (by omega)]
  · rw [pk_un (by omega), pk_un (by omega), na_fiO (by omega)]
  · rw [na_fiO (by omega)]
  · rw [na_fiI (s := sf) (by omega)]
    by_cases e1 : l = 1
    · subst e1
      rw [pk_us, pk_us, pk_us]
      exact ne_mkc hn hi
    · by_cases e0 : l = 0
      · subst e0
        rw [Nat.add_zero (b * 264), pk_un (by omega), pk_us, pk_un (by omega), pk_us, pk_un (by omega), pk_us]
        exact ⟨2, nr_c2⟩
      · rw [pk_un (by omega), pk_un (by omega), pk_un (by omega), pk_un (by omega), pk_un (by omega), pk_un (by omega), na_fiI (by omega), na_fiI (by omega), na_fiI (by omega)]
        exact ⟨1, nr_c1⟩
  · rw [pk_un (by omega), pk_un (by omega), na_fiO (by omega), na_fiI (by omega)]
