/-! arrays that a counted loop writes -/
def na_av (o : Int32 → Int32 → Int32) (s t : Nat → Int32) (st i : Nat) : Nat → Int32 := fun j => if st ≤ j ∧ j < st + i then o (s j) (t (j - st)) else s j
theorem na_av0 (o : Int32 → Int32 → Int32) (s t : Nat → Int32) (st : Nat) : na_av o s t st 0 = s := funext fun j => if_neg (by omega)
theorem na_avS (o : Int32 → Int32 → Int32) (s t : Nat → Int32) (st i : Nat) : na_av o s t st (i + 1) = upd (na_av o s t st i) (st + i) (o (s (st + i)) (t i)) := by
  funext j
  unfold na_av upd
  by_cases h : j = st + i
  · subst h
    rw [if_pos (by omega), if_pos rfl, show st + i - st = i from by omega]
  · rw [if_neg h]
    by_cases h2 : st ≤ j ∧ j < st + i
    · rw [if_pos (by omega)]
      exact (if_pos h2).symm
    · rw [if_neg (by omega)]
      exact (if_neg h2).symm
theorem na_avO {o : Int32 → Int32 → Int32} {s t : Nat → Int32} {st i j : Nat} (h : j < st ∨ st + i ≤ j) : na_av o s t st i j = s j := if_neg (by omega)
theorem na_avI {o : Int32 → Int32 → Int32} {s t : Nat → Int32} {st i l : Nat} (h : l < i) : na_av o s t st i (st + l) = o (s (st + l)) (t l) := by
  unfold na_av
  rw [if_pos (by omega), show st + l - st = l from by omega]
theorem na_avE {o : Int32 → Int32 → Int32} {s t : Nat → Int32} {st i : Nat} (h : o (s (st + i)) (t i) = s (st + i)) : na_av o s t st (i + 1) = na_av o s t st i := by
  rw [na_avS]
  funext j
  unfold upd
  by_cases e : j = st + i
  · rw [if_pos e, h, e, na_avO (by omega)]
  · rw [if_neg e]
def na_rs (s t : Nat → Int32) (st : Nat) : Nat → Int32
  | 0 => 0
  | i + 1 => if nc_xj (s (st + i)) (t i) = s (st + i) then na_rs s t st i else 1
def na_ch (z c0 : Int32) (sn si sf tn ti tf : Nat → Int32) (st : Nat) : Nat → Int32
  | 0 => c0
  | i + 1 => if nc_yn z (sn (st + i)) (tn i) = sn (st + i) ∧ nc_yi z (si (st + i)) (ti i) = si (st + i) ∧ nc_yf z (sf (st + i)) (tf i) = sf (st + i) then na_ch z c0 sn si sf tn ti tf st i else 1
theorem na_rs01 (s t : Nat → Int32) (st : Nat) : ∀ i, na_rs s t st i = 0 ∨ na_rs s t st i = 1
  | 0 => Or.inl rfl
  | i + 1 => by
    rw [na_rs]
    split
    · exact na_rs01 s t st i
    · exact Or.inr rfl
theorem na_rs1 (s t : Nat → Int32) (st : Nat) : ∀ i, na_rs s t st i = 1 → ∃ l, l < i ∧ nc_xj (s (st + l)) (t l) ≠ s (st + l)
  | 0 => fun h => absurd (show (0 : Int32) = 1 from h) (by decide)
  | i + 1 => by
    rw [na_rs]
    by_cases e : nc_xj (s (st + i)) (t i) = s (st + i)
    · rw [if_pos e]
      intro h
      obtain ⟨l, hl, hx⟩ := na_rs1 s t st i h
      exact ⟨l, by omega, hx⟩
    · intro _
      exact ⟨i, by omega, e⟩
def na_ld (s t : Nat → Int32) (st i : Nat) : Nat → Int32 := fun j => if j < i then s (st + j) else t j
theorem na_ld0 (s t : Nat → Int32) (st : Nat) : na_ld s t st 0 = t := funext fun j => if_neg (by omega)
theorem na_ldS (s t : Nat → Int32) (st i : Nat) : na_ld s t st (i + 1) = upd (na_ld s t st i) i (s (st + i)) := by
  funext j
  unfold na_ld upd
  by_cases h : j = i
  · subst h
    rw [if_pos (by omega), if_pos rfl]
  · rw [if_neg h]
    by_cases h2 : j < i
    · rw [if_pos (by omega)]
      exact (if_pos h2).symm
    · rw [if_neg (by omega)]
      exact (if_neg h2).symm
theorem na_ldI {s t : Nat → Int32} {st i l : Nat} (h : l < i) : na_ld s t st i l = s (st + l) := if_pos h
def na_mk (t : Nat → Int32) (m : Int32) (i : Nat) : Nat → Int32 := fun j => if j < i then t j &&& m else t j
theorem na_mk0 (t : Nat → Int32) (m : Int32) : na_mk t m 0 = t := funext fun j => if_neg (by omega)
theorem na_mkS (t : Nat → Int32) (m : Int32) (i : Nat) : na_mk t m (i + 1) = upd (na_mk t m i) i (t i &&& m) := by
  funext j
  unfold na_mk upd
  by_cases h : j = i
  · subst h
    rw [if_pos (by omega), if_pos rfl]
  · rw [if_neg h]
    by_cases h2 : j < i
    · rw [if_pos (by omega)]
      exact (if_pos h2).symm
    · rw [if_neg (by omega)]
      exact (if_neg h2).symm
theorem na_mkI {t : Nat → Int32} {m : Int32} {i l : Nat} (h : l < i) : na_mk t m i l = t l &&& m := if_pos h
theorem na_mkO {t : Nat → Int32} {m : Int32} {i l : Nat} (h : i ≤ l) : na_mk t m i l = t l := if_neg (by omega)
def na_fi (s : Nat → Int32) (st i : Nat) (v : Int32) : Nat → Int32 := fun j => if st ≤ j ∧ j < st + i then v else s j
theorem na_fi0 (s : Nat → Int32) (st : Nat) (v : Int32) : na_fi s st 0 v = s := funext fun j => if_neg (by omega)
theorem na_fiS (s : Nat → Int32) (st i : Nat) (v : Int32) : na_fi s st (i + 1) v = upd (na_fi s st i v) (st + i) v := by
  funext j
  unfold na_fi upd
  by_cases h : j = st + i
  · rw [if_pos (by omega), if_pos h]
  · rw [if_neg h]
    by_cases h2 : st ≤ j ∧ j < st + i
    · rw [if_pos (by omega)]
      exact (if_pos h2).symm
    · rw [if_neg (by omega)]
      exact (if_neg h2).symm
theorem na_fiI {s : Nat → Int32} {st i j : Nat} {v : Int32} (h : st ≤ j ∧ j < st + i) : na_fi s st i v j = v := if_pos h
theorem na_fiO {s : Nat → Int32} {st i j : Nat} {v : Int32} (h : j < st ∨ st + i ≤ j) : na_fi s st i v j = s j := if_neg (by omega)
/-! sums, for the number of rounds -/
def na_sm (f : Nat → Nat) : Nat → Nat
  | 0 => 0
  | n + 1 => na_sm f n + f n
theorem na_smB {f : Nat → Nat} {c : Nat} (h : ∀ j, f j ≤ c) : ∀ n, na_sm f n ≤ c * n
  | 0 => Nat.le_refl 0
  | n + 1 => by
    have := na_smB h n
    have := h n
    simp only [na_sm]
    rw [Nat.mul_add, Nat.mul_one]
    omega
theorem na_smL {f g : Nat → Nat} (h : ∀ j, f j ≤ g j) : ∀ n, na_sm f n ≤ na_sm g n
  | 0 => Nat.le_refl 0
  | n + 1 => by
    have := na_smL h n
    have := h n
    simp only [na_sm]
    omega
theorem na_smS {f g : Nat → Nat} (h : ∀ j, f j ≤ g j) : ∀ n, (∃ j, j < n ∧ f j < g j) → na_sm f n < na_sm g n
  | 0 => fun ⟨j, hj, _⟩ => absurd hj (by omega)
  | n + 1 => by
    rintro ⟨j, hj, hl⟩
    simp only [na_sm]
    by_cases e : j = n
    · subst e
      have := na_smL h j
      omega
    · have := na_smS h n ⟨j, by omega, hl⟩
      have := h n
      omega
/-! the relation of a point, and of the state on its way -/
def nr_pt (so rc sn si sf : Nat → Int32) (q : Nat) : Prop := (rc q = 0 ∧ ∀ l, l < 8 → so (q * 8 + l) = -1) ∨ (rc q = 1 ∧ ∀ l, l < 8 → ∃ c, nc_cr (so (q * 8 + l)) (sn (q * 8 + l)) (si (q * 8 + l)) (sf (q * 8 + l)) c)
def nr_er (ed tn ti tf : Nat → Int32) : Prop := ∀ l, l < 8 → ∃ c, nc_cr (ed l) (tn l) (ti l) (tf l) c
theorem nr_set {ed tn ti tf : Nat → Int32} {a : Nat} {s n i f : Int32} {c : Nat} (h : nr_er ed tn ti tf) (hc : nc_cr s n i f c) : nr_er (upd ed a s) (upd tn a n) (upd ti a i) (upd tf a f) := by
  intro l hl
  by_cases e : l = a
  · subst e
    rw [pk_us, pk_us, pk_us, pk_us]
    exact ⟨c, hc⟩
  · rw [pk_un e, pk_un e, pk_un e, pk_un e]
    exact h l hl
/-- r: what the component says of having risen -/
def nr_go (b : Nat) (so rc sn si sf so' rc' sn' si' sf' : Nat → Int32) (r : Int32) : Prop :=
  (r = 0 ∨ r = 1) ∧ (∀ q, nr_pt so rc sn si sf q → nr_pt so' rc' sn' si' sf' q) ∧ (∀ j, nc_gI (so' j) ≤ nc_gI (so j)) ∧
  (r = 1 → ∃ j, b * 264 ≤ j ∧ j < b * 264 + 264 ∧ nc_gI (so' j) < nc_gI (so j)) ∧ (∀ j, j < b * 264 → so' j = so j) ∧ (∀ j, b * 33 + 33 ≤ j → rc' j = rc j)
theorem nr_go0 {b : Nat} {so rc sn si sf : Nat → Int32} : nr_go b so rc sn si sf so rc sn si sf 0 :=
  ⟨Or.inl rfl, fun _ h => h, fun _ => Nat.le_refl _, fun h => absurd h (by decide), fun _ _ => rfl, fun _ _ => rfl⟩
theorem nr_goT {b : Nat} {so rc sn si sf so' rc' sn' si' sf' so'' rc'' sn'' si'' sf'' : Nat → Int32} {r r' : Int32} (h : nr_go b so rc sn si sf so' rc' sn' si' sf' r) (h' : nr_go b so' rc' sn' si' sf' so'' rc'' sn'' si'' sf'' r') : nr_go b so rc sn si sf so'' rc'' sn'' si'' sf'' (if r' = 0 then r else 1) := by
  obtain ⟨a1, a2, a3, a4, a5, a6⟩ := h
  obtain ⟨b1, b2, b3, b4, b5, b6⟩ := h'
  refine ⟨?_, fun q hq => b2 q (a2 q hq), fun j => Nat.le_trans (b3 j) (a3 j), ?_, fun j hj => (b5 j hj).trans (a5 j hj), fun j hj => (b6 j hj).trans (a6 j hj)⟩
  · split
    · exact a1
    · exact Or.inr rfl
  · intro e
    rcases b1 with z | z
    · rw [if_pos z] at e
      obtain ⟨j, h1, h2, h3⟩ := a4 e
      exact ⟨j, h1, h2, Nat.lt_of_le_of_lt (b3 j) h3⟩
    · obtain ⟨j, h1, h2, h3⟩ := b4 z
      exact ⟨j, h1, h2, Nat.lt_of_lt_of_le h3 (a3 j)⟩
theorem nr_pt1 {so rc sn si sf : Nat → Int32} {q : Nat} (h : nr_pt so rc sn si sf q) : (so (q * 8) = -1 ↔ rc q = 0) ∧ (rc q = 0 ∨ rc q = 1) := by
  rcases h with ⟨h1, h2⟩ | ⟨h1, h2⟩
  · exact ⟨⟨fun _ => h1, fun _ => h2 0 (by omega)⟩, Or.inl h1⟩
  · refine ⟨⟨fun e => ?_, fun e => ?_⟩, Or.inr h1⟩
    · obtain ⟨c, ho, hs, _⟩ := h2 0 (by omega)
      exact absurd (hs.symm.trans e) (nc_m1 (by have := ho.1; omega))
    · rw [h1] at e
      exact absurd e (by decide)
/-- a cell's value behind a join -/
theorem nr_cell {s n i f s' n' i' f' : Int32} {c : Nat} (h : s = -1 ∨ ∃ h, nc_cr s n i f h) (C : nc_cr s' n' i' f' c) : nc_gI (nc_xj s s') ≤ nc_gI s ∧ (nc_xj s s' ≠ s → nc_gI (nc_xj s s') < nc_gI s) := by
  rcases h with rfl | ⟨h, H⟩
  · rw [nc_xjF, nc_gF, C.2.1, nc_gN C.1.1]
    have := (nc_t5 c C.1.1).2
    exact ⟨by omega, fun _ => by omega⟩
  · have J := nc_crj H C
    have T := nc_t2 h H.1.1 c C.1.1 H.1.2 C.1.2
    rw [J.2.1, H.2.1, nc_gN J.1.1, nc_gN H.1.1]
    refine ⟨T.1, fun e => T.2.resolve_left fun e' => e (by rw [e'])⟩
section
variable {so rc sn si sf ed tn ti tf : Nat → Int32} {q : Nat} {z : Int32}
theorem nr_arP (hq : nr_pt so rc sn si sf q) (hE : nr_er ed tn ti tf) (hz : z = if rc q = 0 then 1 else 0) (q' : Nat) (h : nr_pt so rc sn si sf q') : nr_pt (na_av nc_xj so ed (q * 8) 8) (upd rc q 1) (na_av (nc_yn z) sn tn (q * 8) 8) (na_av (nc_yi z) si ti (q * 8) 8) (na_av (nc_yf z) sf tf (q * 8) 8) q' := by
  by_cases e : q' = q
  · subst e
    refine Or.inr ⟨pk_us, fun l hl => ?_⟩
    rw [na_avI hl, na_avI hl, na_avI hl, na_avI hl]
    obtain ⟨c, C⟩ := hE l hl
    rcases hq with ⟨h1, h2⟩ | ⟨h1, h2⟩
    · rw [if_pos h1] at hz
      subst hz
      exact ⟨c, nc_crf (h2 l hl) C⟩
    · rw [if_neg (by rw [h1]; decide)] at hz
      subst hz
      obtain ⟨d, D⟩ := h2 l hl
      exact ⟨_, nc_crj D C⟩
  · have o : ∀ l, l < 8 → q' * 8 + l < q * 8 ∨ q * 8 + 8 ≤ q' * 8 + l := fun l hl => by omega
    rcases h with ⟨h1, h2⟩ | ⟨h1, h2⟩
    · refine Or.inl ⟨by rw [pk_un e, h1], fun l hl => ?_⟩
      rw [na_avO (o l hl)]
      exact h2 l hl
    · refine Or.inr ⟨by rw [pk_un e, h1], fun l hl => ?_⟩
      rw [na_avO (o l hl), na_avO (o l hl), na_avO (o l hl), na_avO (o l hl)]
      exact h2 l hl
theorem nr_arC (hq : nr_pt so rc sn si sf q) (hE : nr_er ed tn ti tf) {l : Nat} (hl : l < 8) : nc_gI (nc_xj (so (q * 8 + l)) (ed l)) ≤ nc_gI (so (q * 8 + l)) ∧ (nc_xj (so (q * 8 + l)) (ed l) ≠ so (q * 8 + l) → nc_gI (nc_xj (so (q * 8 + l)) (ed l)) < nc_gI (so (q * 8 + l))) := by
  obtain ⟨c, C⟩ := hE l hl
  rcases hq with ⟨_, h2⟩ | ⟨_, h2⟩
  · exact nr_cell (n := 0) (i := 0) (f := 0) (Or.inl (h2 l hl)) C
  · exact nr_cell (Or.inr (h2 l hl)) C
theorem nr_arG {b : Nat} (hb : b * 33 ≤ q) (hb2 : q < b * 33 + 33) (hq : nr_pt so rc sn si sf q) (hE : nr_er ed tn ti tf) (hz : z = if rc q = 0 then 1 else 0) : nr_go b so rc sn si sf (na_av nc_xj so ed (q * 8) 8) (upd rc q 1) (na_av (nc_yn z) sn tn (q * 8) 8) (na_av (nc_yi z) si ti (q * 8) 8) (na_av (nc_yf z) sf tf (q * 8) 8) (na_rs so ed (q * 8) 8) := by
  refine ⟨na_rs01 _ _ _ _, nr_arP hq hE hz, fun j => ?_, fun e => ?_, fun j hj => na_avO (by omega), fun j hj => pk_un (by omega)⟩
  · by_cases h : q * 8 ≤ j ∧ j < q * 8 + 8
    · obtain ⟨l, rfl⟩ : ∃ l, j = q * 8 + l := ⟨j - q * 8, by omega⟩
      rw [na_avI (by omega)]
      exact (nr_arC hq hE (by omega)).1
    · rw [na_avO (by omega)]
      exact Nat.le_refl _
  · obtain ⟨l, hl, hx⟩ := na_rs1 _ _ _ _ e
    refine ⟨q * 8 + l, by omega, by omega, ?_⟩
    rw [na_avI hl]
    exact (nr_arC hq hE hl).2 hx
theorem nr_arH (hq : nr_pt so rc sn si sf q) (hE : nr_er ed tn ti tf) (hz : z = if rc q = 0 then 1 else 0) (c0 : Int32) : na_ch z (if z = 0 then c0 else 1) sn si sf tn ti tf (q * 8) 8 = (if na_rs so ed (q * 8) 8 = 0 then c0 else 1) := by
  rcases hq with ⟨h1, h2⟩ | ⟨h1, h2⟩
  · rw [if_pos h1] at hz
    subst hz
    have A : ∀ i, na_ch 1 1 sn si sf tn ti tf (q * 8) i = 1 := by
      intro i
      induction i with
      | zero => rfl
      | succ i ih => rw [na_ch]; split <;> first | exact ih | rfl
    have B : ∀ i, i < 8 → na_rs so ed (q * 8) (i + 1) = 1 := by
      intro i hi
      obtain ⟨c, C⟩ := hE i hi
      rw [na_rs]
      rw [h2 i hi, nc_xjF, if_neg]
      rw [C.2.1]
      exact nc_m1 (by have := C.1.1; omega)
    have B8 : na_rs so ed (q * 8) 8 = 1 := B 7 (by omega)
    rw [if_neg (by decide), A 8, B8, if_neg (by decide)]
  · rw [if_neg (by rw [h1]; decide)] at hz
    subst hz
    have A : ∀ i, i ≤ 8 → na_ch 0 c0 sn si sf tn ti tf (q * 8) i = (if na_rs so ed (q * 8) i = 0 then c0 else 1) := by
      intro i
      induction i with
      | zero => intro _; rfl
      | succ i ih =>
        intro hi
        obtain ⟨c, C⟩ := hE i (by omega)
        obtain ⟨d, D⟩ := h2 i (by omega)
        have J := nc_crj D C
        have E := nc_same D J
        rw [na_ch, na_rs]
        by_cases e : nc_xj (so (q * 8 + i)) (ed i) = so (q * 8 + i)
        · rw [if_pos (E.mp e), if_pos e]
          exact ih (by omega)
        · rw [if_neg (fun h => e (E.mpr h)), if_neg e, if_neg (by decide)]
    rw [if_pos rfl]
    exact A 8 (Nat.le_refl 8)
theorem nr_keep {q' l : Nat} (hl : l < 8) (h1 : rc q' = 1) (hz : z = if rc q = 0 then 1 else 0) (e : q' = q → tn l = sn (q * 8 + l) ∧ ti l = si (q * 8 + l) ∧ tf l = sf (q * 8 + l)) : na_av (nc_yn z) sn tn (q * 8) 8 (q' * 8 + l) = sn (q' * 8 + l) ∧ na_av (nc_yi z) si ti (q * 8) 8 (q' * 8 + l) = si (q' * 8 + l) ∧ na_av (nc_yf z) sf tf (q * 8) 8 (q' * 8 + l) = sf (q' * 8 + l) := by
  by_cases d : q' = q
  · subst d
    obtain ⟨e1, e2, e3⟩ := e rfl
    rw [if_neg (by rw [h1]; decide)] at hz
    subst hz
    rw [na_avI hl, na_avI hl, na_avI hl, e1, e2, e3]
    refine ⟨?_, ?_, ?_⟩
    · unfold nc_yn
      rw [if_pos rfl]
      split <;> rfl
    · unfold nc_yi
      rw [if_pos rfl, if_pos rfl]
    · unfold nc_yf
      rw [if_pos rfl, Int32.and_self]
  · rw [na_avO (by omega), na_avO (by omega), na_avO (by omega)]
    exact ⟨rfl, rfl, rfl⟩
end
