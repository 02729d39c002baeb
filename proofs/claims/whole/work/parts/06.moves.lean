/-! numbers -/
theorem nn_m4 (a : Nat) : nI a * 4 = nI (a * 4) := pk_mul a 4
theorem nn_m8 (a : Nat) : nI a * 8 = nI (a * 8) := pk_mul a 8
theorem nn_m12 (a : Nat) : nI a * 12 = nI (a * 12) := pk_mul a 12
theorem nn_m32 (a : Nat) : nI a * 32 = nI (a * 32) := pk_mul a 32
theorem nn_m33 (a : Nat) : nI a * 33 = nI (a * 33) := pk_mul a 33
theorem nn_m64 (a : Nat) : (64 : Int32) * nI a = nI (64 * a) := pk_mul 64 a
theorem nn_a1 (a : Nat) : nI a + 1 = nI (a + 1) := nI_add a 1
theorem nn_a2 (a : Nat) : nI a + 2 = nI (a + 2) := nI_add a 2
theorem nn_a3 (a : Nat) : nI a + 3 = nI (a + 3) := nI_add a 3
theorem nn_a8 (a : Nat) : nI a + 8 = nI (a + 8) := nI_add a 8
theorem nn_a9 (a : Nat) : nI a + 9 = nI (a + 9) := nI_add a 9
theorem nn_a10 (a : Nat) : nI a + 10 = nI (a + 10) := nI_add a 10
theorem nn_a11 (a : Nat) : nI a + 11 = nI (a + 11) := nI_add a 11
theorem nn_in {n N : Nat} (h : n < N) (hN : N < 2 ^ 31) : vp_in (nI n) N = True := eq_true (vp_in_nI h hN)
/-- an int, against a range -/
theorem nn_rng (x : Int32) (n : Nat) (hn : n < 2 ^ 30) : (∃ j, j ≤ n ∧ x = nI j) ∨ (x < 0 ∧ ¬ 0 ≤ x ∧ ¬ nI n < x ∧ x ≤ nI n) ∨ (¬ x < 0 ∧ 0 ≤ x ∧ nI n < x ∧ ¬ x ≤ nI n) := by
  have e : (nI n).toInt = n := nI_toInt (by omega)
  have z : (0 : Int32).toInt = 0 := by decide
  by_cases h : x < 0
  · right; left
    refine ⟨h, ?_, ?_, ?_⟩ <;> simp only [Int32.lt_iff_toInt_lt, Int32.le_iff_toInt_le, e, z] at h ⊢ <;> omega
  · obtain ⟨j, hj, rfl⟩ := nI_of h
    by_cases h2 : j ≤ n
    · exact Or.inl ⟨j, h2, rfl⟩
    · right; right
      exact ⟨h, nI_pos' hj, nI_lt (by omega) hj, nI_ge (by omega) hj⟩
/-! the program grows -/
theorem nv_pgE {L : Nat → Nat} {pg : Nat → Int32} {s o A B K : Nat} (h : nv_pg L pg) (hL : ∀ j, j < 4 → L j ≤ 32) (hs : s < 4) (hl : L s < 32) (hi : nv_in o A B K) : nv_pg (fun j => if j = s then L s + 1 else L j) (upd (upd (upd (upd pg ((s * 32 + L s) * 4) (nI o)) ((s * 32 + L s) * 4 + 1) (nI A)) ((s * 32 + L s) * 4 + 2) (nI B)) ((s * 32 + L s) * 4 + 3) (nI K)) := by
  intro b hb p hp
  by_cases e : b = s ∧ p = L s
  · obtain ⟨rfl, rfl⟩ := e
    refine ⟨o, A, B, K, ?_, ?_, ?_, ?_, hi⟩
    · rw [pk_un (by omega), pk_un (by omega), pk_un (by omega), pk_us]
    · rw [pk_un (by omega), pk_un (by omega), pk_us]
    · rw [pk_un (by omega), pk_us]
    · rw [pk_us]
  · have hp' : p < L b := by
      by_cases d : b = s
      · subst d
        have hp2 : p < L b + 1 := by simpa using hp
        have : p ≠ L b := fun z => e ⟨rfl, z⟩
        omega
      · simpa [d] using hp
    have hb2 := hL b hb
    have hd : b * 32 + p ≠ s * 32 + L s := by
      intro z
      apply e
      omega
    obtain ⟨o', A', B', K', e1, e2, e3, e4, hi'⟩ := h b hb p hp'
    refine ⟨o', A', B', K', ?_, ?_, ?_, ?_, hi'⟩
    · rw [pk_un (by omega), pk_un (by omega), pk_un (by omega), pk_un (by omega), e1]
    · rw [pk_un (by omega), pk_un (by omega), pk_un (by omega), pk_un (by omega), e2]
    · rw [pk_un (by omega), pk_un (by omega), pk_un (by omega), pk_un (by omega), e3]
    · rw [pk_un (by omega), pk_un (by omega), pk_un (by omega), pk_un (by omega), e4]
theorem nv_lnE {L : Nat → Nat} {C : Nat} {ln : Nat → Int32} {s : Nat} (h : nv_ln L C ln) (hl : L s < C) : nv_ln (fun j => if j = s then L s + 1 else L j) C (upd ln s (nI (L s + 1))) := by
  intro j hj
  by_cases e : j = s
  · subst e
    refine ⟨?_, ?_⟩
    · show upd ln j (nI (L j + 1)) j = nI (if j = j then L j + 1 else L j)
      rw [pk_us, if_pos rfl]
    · show (if j = j then L j + 1 else L j) ≤ C
      rw [if_pos rfl]
      omega
  · have g : (if j = s then L s + 1 else L j) = L j := if_neg e
    show upd ln s (nI (L s + 1)) j = nI (if j = s then L s + 1 else L j) ∧ (if j = s then L s + 1 else L j) ≤ C
    rw [pk_un e, g]
    exact h j hj
/-! frames and objects -/
theorem nv_frL {O k j a : Nat} {fr : Nat → Int32} {v : Int32} (h : nv_fr O k fr) (ha : a < 8) (hv : nv_vl O v) : nv_fr O k (upd fr (j * 12 + a) v) := by
  obtain ⟨h1, h2, h3, h4⟩ := h
  refine ⟨fun s hs => ?_, ?_, ?_, ?_⟩
  · unfold upd
    split
    · exact hv
    · exact h1 s hs
  · rw [pk_un (by omega)]; exact h2
  · rw [pk_un (by omega)]; exact h3
  · rw [pk_un (by omega), pk_un (by omega)]; exact h4
theorem nv_frP {O k j p : Nat} {fr : Nat → Int32} (h : nv_fr O k fr) (hp : p < 33) : nv_fr O k (upd fr (j * 12 + 9) (nI p)) := by
  obtain ⟨h1, h2, h3, h4⟩ := h
  refine ⟨fun s hs => ?_, ?_, ?_, ?_⟩
  · rw [pk_un (by omega)]; exact h1 s hs
  · rw [pk_un (by omega)]; exact h2
  · unfold upd
    split
    · exact ⟨p, hp, rfl⟩
    · exact h3
  · rw [pk_un (by omega), pk_un (by omega)]; exact h4
theorem nv_frO {O O' k : Nat} {fr : Nat → Int32} (h : nv_fr O k fr) (hO : O ≤ O') : nv_fr O' k fr := by
  obtain ⟨h1, h2, h3, h4⟩ := h
  refine ⟨fun s hs => nv_vlm hO (h1 s hs), h2, h3, fun hk => ⟨(h4 hk).1, ?_⟩⟩
  obtain ⟨q, hq, e⟩ := (h4 hk).2
  exact ⟨q, by omega, e⟩
def nw_push (fr : Nat → Int32) (F : Nat) (bl ar de ow : Int32) : Nat → Int32 := upd (upd (upd (upd (upd (upd (na_fi fr (F * 12) 8 (-1)) (F * 12) ow) (F * 12 + 1) ar) (F * 12 + 8) bl) (F * 12 + 9) 0) (F * 12 + 10) de) (F * 12 + 11) ow
theorem nw_old {fr : Nat → Int32} {F j : Nat} {bl ar de ow : Int32} (h : j < F * 12) : nw_push fr F bl ar de ow j = fr j := by
  unfold nw_push
  rw [pk_un (by omega), pk_un (by omega), pk_un (by omega), pk_un (by omega), pk_un (by omega), pk_un (by omega), na_fiO (by omega)]
theorem nw_frK {O k F : Nat} {fr : Nat → Int32} {bl ar de ow : Int32} (h : nv_fr O k fr) (hk : k < F) : nv_fr O k (nw_push fr F bl ar de ow) := by
  obtain ⟨h1, h2, h3, h4⟩ := h
  refine ⟨fun s hs => ?_, ?_, ?_, ?_⟩
  · rw [nw_old (by omega)]; exact h1 s hs
  · rw [nw_old (by omega)]; exact h2
  · rw [nw_old (by omega)]; exact h3
  · rw [nw_old (by omega), nw_old (by omega)]; exact h4
theorem nw_frN {O F b : Nat} {fr : Nat → Int32} {ar de ow : Int32} (hb : b < 4) (ha : nv_vl O ar) (ho : nv_vl O ow) (hd : 0 < F → (∃ d, d < 8 ∧ de = nI d) ∧ ∃ q, q < O ∧ ow = nI q) : nv_fr O F (nw_push fr F (nI b) ar de ow) := by
  unfold nw_push
  refine ⟨fun s hs => ?_, ⟨b, hb, ?_⟩, ⟨0, by omega, ?_⟩, ?_⟩
  · rw [pk_un (by omega), pk_un (by omega), pk_un (by omega), pk_un (by omega)]
    unfold upd
    split
    · exact ha
    · split
      · exact ho
      · rw [na_fiI (by omega)]
        exact Or.inl rfl
  · rw [pk_un (by omega), pk_un (by omega), pk_un (by omega), pk_us]
  · rw [pk_un (by omega), pk_un (by omega), pk_us]
    rfl
  · rw [pk_un (by omega), pk_us, pk_us]
    exact hd
theorem nv_Mf {O F U H D : Nat} {hp fr fr' : Nat → Int32} (h : nv_M O F U H D hp fr) (hf : ∀ k, k < F → nv_fr O k fr → nv_fr O k fr') : nv_M O F U H D hp fr' := ⟨h.1, h.2.1, h.2.2.1, h.2.2.2.1, fun k hk => hf k hk (h.2.2.2.2 k hk)⟩
theorem nv_Mh {O F U H D o f : Nat} {hp fr : Nat → Int32} {v : Int32} (h : nv_M O F U H D hp fr) (hv : nv_vl O v) : nv_M O F U H D (upd hp (o * 4 + f) v) fr := by
  refine ⟨h.1, h.2.1, h.2.2.1, fun j hj => ?_, h.2.2.2.2⟩
  unfold upd
  split
  · exact hv
  · exact h.2.2.2.1 j hj
theorem nv_Mu {O F U U' H D : Nat} {hp fr : Nat → Int32} (h : nv_M O F U H D hp fr) (hU : U' ≤ 16) : nv_M O F U' H D hp fr := ⟨h.1, h.2.1, hU, h.2.2.2.1, h.2.2.2.2⟩
theorem nv_Mpop {O F U H D : Nat} {hp fr : Nat → Int32} (h : nv_M O (F + 1) U H D hp fr) : nv_M O F U H D hp fr := ⟨h.1, by have := h.2.1; omega, h.2.2.1, h.2.2.2.1, fun k hk => h.2.2.2.2 k (by omega)⟩
theorem nv_M0 {H D : Nat} {hp fr : Nat → Int32} : nv_M 0 0 0 H D hp fr := ⟨by omega, by omega, by omega, fun j hj => absurd hj (by omega), fun k hk => absurd hk (by omega)⟩
theorem nv_Mnew {O F U H D b d : Nat} {hp fr : Nat → Int32} {ar : Int32} (h : nv_M O F U H D hp fr) (hO : O < H) (hF : F < D) (hb : b < 4) (hd : d < 8) (ha : nv_vl O ar) : nv_M (O + 1) (F + 1) U H D (na_fi hp (O * 4) 4 (-1)) (nw_push fr F (nI b) ar (nI d) (nI O)) := by
  obtain ⟨_, _, h3, h4, h5⟩ := h
  refine ⟨by omega, by omega, h3, fun j hj => ?_, fun k hk => ?_⟩
  · unfold na_fi
    split
    · exact Or.inl rfl
    · exact nv_vlm (by omega) (h4 j (by omega))
  · by_cases e : k = F
    · subst e
      exact nw_frN hb (nv_vlm (by omega) ha) (Or.inr ⟨O, by omega, rfl⟩) (fun _ => ⟨⟨d, hd, rfl⟩, O, by omega, rfl⟩)
    · exact nw_frK (nv_frO (h5 k (by omega)) (by omega)) (by omega)
theorem nv_Mstart {H D : Nat} (hD : 1 ≤ D) {hp fr : Nat → Int32} : nv_M 0 1 0 H D hp (nw_push fr 0 0 (-1) (-1) (-1)) := by
  refine ⟨by omega, hD, by omega, fun j hj => absurd hj (by omega), fun k hk => ?_⟩
  obtain rfl : k = 0 := by omega
  exact nw_frN (b := 0) (by omega) (Or.inl rfl) (Or.inl rfl) (fun z => absurd z (by omega))
theorem nw_main (fr : Nat → Int32) : nw_push fr 0 0 (-1) (-1) (-1) = upd (upd (upd (upd (na_fi fr 0 8 (-1)) 8 0) 9 0) 10 (-1)) 11 (-1) := by
  have e : upd (upd (na_fi fr (0 * 12) 8 (-1)) (0 * 12) (-1)) (0 * 12 + 1) (-1) = na_fi fr 0 8 (-1) := by
    funext j
    unfold upd
    split
    · exact (na_fiI (by omega)).symm
    · split
      · exact (na_fiI (by omega)).symm
      · rfl
  unfold nw_push
  rw [e]
