section
/-! rows of kit/rows -/
theorem pk_us {f : Nat → Int32} {k : Nat} {x : Int32} : upd f k x k = x := if_pos rfl
theorem pk_un {f : Nat → Int32} {k j : Nat} {x : Int32} (h : j ≠ k) : upd f k x j = f j := if_neg h
theorem pk_sub {a b : Nat} (h : b ≤ a) : nI a - nI b = nI (a - b) := by
  obtain ⟨c, rfl⟩ : ∃ c, a = c + b := ⟨a - b, by omega⟩
  rw [← nI_add, Int32.add_sub_cancel, Nat.add_sub_cancel]
theorem pk_m1 (n : Nat) : nI (n + 1) + (-1) = nI n := by
  rw [← nI_1, Int32.add_assoc, show (1 : Int32) + (-1) = 0 from rfl, Int32.add_zero]
theorem pk_mul (a b : Nat) : nI a * nI b = nI (a * b) := (Int32.ofNat_mul a b).symm
theorem pk_div {a d : Nat} (ha : a < 2 ^ 31) (h0 : 0 < d) (hd : d < 2 ^ 31) : nI a / nI d = nI (a / d) := by
  apply Int32.toInt_inj.mp
  rw [lg_idiv_nonneg (by rw [nI_toInt ha]; omega) (by rw [nI_toInt hd]; omega), nI_toInt ha, nI_toInt hd, nI_toInt (Nat.lt_of_le_of_lt (Nat.div_le_self a d) ha)]
  first | rfl | exact (Int.natCast_ediv _ _).symm
theorem pk_ix (x : Int32) {n : Nat} (hn : n < 2 ^ 31) : x < 0 ∨ nI n ≤ x ∨ ∃ j : Nat, j < n ∧ x = nI j := by
  by_cases h : x < 0
  · exact Or.inl h
  · obtain ⟨j, hj, rfl⟩ := nI_of h
    by_cases h2 : j < n
    · exact Or.inr (Or.inr ⟨j, h2, rfl⟩)
    · exact Or.inr (Or.inl (nI_le (by omega) hj))
theorem pk_le {x y : Int32} {A B : Prop} (a b : Nat) (f : a ≤ b → A) (g : b < a → B) (hx : x = nI a := by rfl) (hy : y = nI b := by rfl) (ha : a < 2 ^ 31 := by omega) (hb : b < 2 ^ 31 := by omega) : (x ≤ y → A) ∧ (¬ x ≤ y → B) := by
  subst hx hy
  rw [nI_leI ha hb]
  exact ⟨f, fun z => g (by omega)⟩
theorem pk_lt {x y : Int32} {A B : Prop} (a b : Nat) (f : a < b → A) (g : b ≤ a → B) (hx : x = nI a := by rfl) (hy : y = nI b := by rfl) (ha : a < 2 ^ 31 := by omega) (hb : b < 2 ^ 31 := by omega) : (x < y → A) ∧ (¬ x < y → B) := by
  subst hx hy
  rw [nI_ltI ha hb]
  exact ⟨f, fun z => g (by omega)⟩
theorem pk_eq {x y : Int32} {A B : Prop} (a b : Nat) (f : a = b → A) (g : a ≠ b → B) (hx : x = nI a := by rfl) (hy : y = nI b := by rfl) (ha : a < 2 ^ 31 := by omega) (hb : b < 2 ^ 31 := by omega) : (x = y → A) ∧ (¬ x = y → B) := by
  subst hx hy
  rw [nI_eq ha hb]
  exact ⟨f, g⟩
theorem pk_in {x : Int32} (n N : Nat) (h : n < N) (hx : x = nI n := by rfl) (hN : N < 2 ^ 31 := by omega) : vp_in x N := by
  subst hx
  exact vp_in_nI h hN
theorem pk_cl {x : Int32} (n : Nat) (hx : x = nI n := by rfl) (h : n < 2 ^ 31 := by omega) : x.toNatClampNeg = n := by
  subst hx
  exact nI_clamp h
theorem nx_and (a b : Nat) : nI a &&& nI b = nI (a &&& b) := by
  apply Int32.toBitVec_inj.1
  show BitVec.ofNat 32 a &&& BitVec.ofNat 32 b = BitVec.ofNat 32 (a &&& b)
  apply BitVec.eq_of_getLsbD_eq
  intro i hi
  simp [hi]
end
section
/-! codes of a triple: n + 2 i + 8 F -/
theorem nc_or (a b : Nat) : nI a ||| nI b = nI (a ||| b) := by
  apply Int32.toBitVec_inj.1
  show BitVec.ofNat 32 a ||| BitVec.ofNat 32 b = BitVec.ofNat 32 (a ||| b)
  apply BitVec.eq_of_getLsbD_eq
  intro i hi
  simp [hi]
def nc_jn (h c : Nat) : Nat := (h % 2 ||| c % 2) + 2 * (if h / 2 % 4 = c / 2 % 4 then h / 2 % 4 else 2) + 8 * (h / 8 &&& c / 8)
def nc_g (c : Nat) : Nat := (1 - c % 2) + (if c / 2 % 4 = 2 then 0 else 1) + (c / 8 % 2 + c / 16 % 2 + c / 32 % 2 + c / 64 % 2)
def nc_ok (c : Nat) : Prop := c < 128 ∧ c / 2 % 4 < 3
theorem nc_t1 : ∀ h, h < 128 → ∀ c, c < 128 → h / 2 % 4 < 3 → c / 2 % 4 < 3 → nc_jn h c < 128 ∧ nc_jn h c / 2 % 4 < 3 := by decide +kernel
theorem nc_t2 : ∀ h, h < 128 → ∀ c, c < 128 → h / 2 % 4 < 3 → c / 2 % 4 < 3 → nc_g (nc_jn h c) ≤ nc_g h ∧ (nc_jn h c = h ∨ nc_g (nc_jn h c) < nc_g h) := by decide +kernel
theorem nc_t3 : ∀ h, h < 128 → ∀ c, c < 128 → h / 2 % 4 < 3 → c / 2 % 4 < 3 → (((h ||| c) &&& 1) ||| (if h &&& 6 = c &&& 6 then h &&& 6 else 4)) ||| (h &&& c &&& 120) = nc_jn h c := by decide +kernel
theorem nc_t4 : ∀ h, h < 128 → ∀ c, c < 128 → h / 2 % 4 < 3 → c / 2 % 4 < 3 → nc_jn h c % 2 = (if h % 2 ≤ c % 2 then c % 2 else h % 2) ∧ nc_jn h c / 2 % 4 = (if h / 2 % 4 = c / 2 % 4 then h / 2 % 4 else 2) ∧ nc_jn h c / 8 = (h / 8 &&& c / 8) := by decide +kernel
theorem nc_t5 : ∀ c, c < 128 → nc_jn c c = c ∧ nc_g c ≤ 6 := by decide +kernel
/-- the pure join of the component -/
def nc_xj (h c : Int32) : Int32 := if h = -1 then c else if h &&& 6 = c &&& 6 then ((h ||| c) &&& 1) ||| (h &&& 6) ||| (h &&& c &&& 120) else ((h ||| c) &&& 1) ||| 4 ||| (h &&& c &&& 120)
theorem nc_m1 {c : Nat} (h : c < 2 ^ 31) : ¬ nI c = -1 := by
  intro e
  have := congrArg Int32.toInt e
  rw [nI_toInt h, show (-1 : Int32).toInt = -1 from by decide] at this
  omega
theorem nc_xjN {h c : Nat} (hh : nc_ok h) (hc : nc_ok c) : nc_xj (nI h) (nI c) = nI (nc_jn h c) := by
  obtain ⟨h1, h2⟩ := hh
  obtain ⟨c1, c2⟩ := hc
  have T := nc_t3 h h1 c c1 h2 c2
  have a6 : nI h &&& 6 = nI (h &&& 6) := nx_and h 6
  have b6 : nI c &&& 6 = nI (c &&& 6) := nx_and c 6
  have o1 : (nI h ||| nI c) &&& 1 = nI ((h ||| c) &&& 1) := by rw [nc_or]; exact nx_and _ 1
  have k1 : nI h &&& nI c &&& 120 = nI (h &&& c &&& 120) := by rw [nx_and]; exact nx_and _ 120
  have l1 : h &&& 6 ≤ 6 := Nat.and_le_right
  have l2 : c &&& 6 ≤ 6 := Nat.and_le_right
  unfold nc_xj
  rw [if_neg (nc_m1 (by omega)), a6, b6, o1, k1]
  by_cases e : h &&& 6 = c &&& 6
  · rw [if_pos e] at T
    rw [if_pos (congrArg nI e), nc_or, nc_or, T]
  · rw [if_neg e] at T
    rw [if_neg (fun z => e ((nI_eq (by omega) (by omega)).mp z)), show (4 : Int32) = nI 4 from rfl, nc_or, nc_or, T]
theorem nc_xjF (c : Int32) : nc_xj (-1) c = c := if_pos rfl
/-- what the reference keeps beside a code -/
def nc_cr (s n i f : Int32) (c : Nat) : Prop := nc_ok c ∧ s = nI c ∧ n = nI (c % 2) ∧ i = nI (c / 2 % 4) ∧ f = nI (c / 8)
def nc_yn (z s t : Int32) : Int32 := if z = 0 then (if s ≤ t then t else s) else t
def nc_yi (z s t : Int32) : Int32 := if z = 0 then (if s = t then s else 2) else t
def nc_yf (z s t : Int32) : Int32 := if z = 0 then s &&& t else t
theorem nc_crj {s n i f s' n' i' f' : Int32} {h c : Nat} (H : nc_cr s n i f h) (C : nc_cr s' n' i' f' c) : nc_cr (nc_xj s s') (nc_yn 0 n n') (nc_yi 0 i i') (nc_yf 0 f f') (nc_jn h c) := by
  obtain ⟨ho, rfl, rfl, rfl, rfl⟩ := H
  obtain ⟨co, rfl, rfl, rfl, rfl⟩ := C
  have T := nc_t4 h ho.1 c co.1 ho.2 co.2
  have h3 := ho.2
  have c3 := co.2
  refine ⟨nc_t1 h ho.1 c co.1 ho.2 co.2, nc_xjN ho co, ?_, ?_, ?_⟩
  · unfold nc_yn
    rw [if_pos rfl, T.1]
    by_cases e : h % 2 ≤ c % 2
    · rw [if_pos (nI_le e (by omega)), if_pos e]
    · rw [if_neg (nI_ge (by omega) (by omega)), if_neg e]
  · unfold nc_yi
    rw [if_pos rfl, T.2.1]
    by_cases e : h / 2 % 4 = c / 2 % 4
    · rw [if_pos (congrArg nI e), if_pos e]
    · rw [if_neg (fun z => e ((nI_eq (by omega) (by omega)).mp z)), if_neg e]
      rfl
  · unfold nc_yf
    rw [if_pos rfl, nx_and, T.2.2]
theorem nc_crf {s n i f : Int32} {s' n' i' f' : Int32} {c : Nat} (hs : s = -1) (C : nc_cr s' n' i' f' c) : nc_cr (nc_xj s s') (nc_yn 1 n n') (nc_yi 1 i i') (nc_yf 1 f f') c := by
  subst hs
  rw [nc_xjF, show nc_yn 1 n n' = n' from if_neg (by decide), show nc_yi 1 i i' = i' from if_neg (by decide), show nc_yf 1 f f' = f' from if_neg (by decide)]
  exact C
/-- equal parts, equal code -/
theorem nc_parts {h c : Nat} : h = c ↔ (h % 2 = c % 2 ∧ h / 2 % 4 = c / 2 % 4 ∧ h / 8 = c / 8) := by
  constructor
  · rintro rfl; exact ⟨rfl, rfl, rfl⟩
  · rintro ⟨a, b, d⟩; omega
theorem nc_same {s n i f s' n' i' f' : Int32} {h c : Nat} (H : nc_cr s n i f h) (C : nc_cr s' n' i' f' c) : s' = s ↔ (n' = n ∧ i' = i ∧ f' = f) := by
  obtain ⟨⟨h1, h2⟩, rfl, rfl, rfl, rfl⟩ := H
  obtain ⟨⟨c1, c2⟩, rfl, rfl, rfl, rfl⟩ := C
  rw [nI_eq (by omega) (by omega), nI_eq (by omega) (by omega), nI_eq (by omega) (by omega), nI_eq (by omega) (by omega)]
  exact nc_parts
/-- how far a code may still rise -/
def nc_gI (s : Int32) : Nat := if s = -1 then 7 else nc_g s.toNatClampNeg
theorem nc_gN {c : Nat} (h : c < 128) : nc_gI (nI c) = nc_g c := by
  unfold nc_gI
  rw [if_neg (nc_m1 (by omega)), nI_clamp (by omega)]
theorem nc_gF : nc_gI (-1) = 7 := if_pos rfl
/-- the edge functions, a code at a time -/
theorem nc_e1 {c : Nat} : nI c &&& 1 = nI (c % 2) := by
  show nI c &&& nI 1 = _
  rw [nx_and, Nat.and_one_is_mod]
theorem nc_e6 : ∀ c, c < 128 → (nI c &&& 6) / 2 = nI (c / 2 % 4) := by decide +kernel
theorem nc_e126 : ∀ c, c < 128 → nI c &&& 126 = nI (c - c % 2) := by decide +kernel
theorem nc_eF : ∀ f, f < 4 → ∀ c, c < 128 → nI c &&& (((8 : Int32) <<< (nI f &&& 31)) ^^^ (-1)) = nI (c % 8 + 8 * (c / 8 &&& (15 - 2 ^ f))) := by decide +kernel
theorem nc_eFy : ∀ f, f < 4 → ∀ c, c < 16 → nI c &&& (((1 : Int32) <<< (nI f &&& 31)) ^^^ (-1)) = nI (c &&& (15 - 2 ^ f)) := by decide +kernel
theorem nc_eK : ∀ f, f < 4 → ∀ c, c < 128 → ((nI c &&& ((8 : Int32) <<< (nI f &&& 31))) = 0 ↔ c / 8 / 2 ^ f % 2 = 0) := by decide +kernel
theorem nc_eKy : ∀ f, f < 4 → ∀ c, c < 16 → (((nI c >>> (nI f &&& 31)) &&& 1) = 0 ↔ c / 2 ^ f % 2 = 0) := by decide +kernel
theorem nc_eP : ∀ f, f < 4 → ∀ c, c < 128 → nI c ||| ((8 : Int32) <<< (nI f &&& 31)) = nI (c % 8 + 8 * (c / 8 ||| 2 ^ f)) := by decide +kernel
theorem nc_ePy : ∀ f, f < 4 → ∀ c, c < 16 → nI c ||| ((1 : Int32) <<< (nI f &&& 31)) = nI (c ||| 2 ^ f) := by decide +kernel
theorem nc_b1 : ∀ f, f < 4 → ∀ c, c < 16 → (c ||| 2 ^ f) < 16 ∧ (c &&& (15 - 2 ^ f)) < 16 := by decide +kernel
theorem nc_b2 : ∀ m, m < 16 → ∀ c, c < 16 → (c &&& m) < 16 := by decide +kernel
/-- a code with another set of fields -/
theorem nc_setF {c G : Nat} (h : nc_ok c) (hG : G < 16) : nc_ok (c % 8 + 8 * G) ∧ (c % 8 + 8 * G) % 2 = c % 2 ∧ (c % 8 + 8 * G) / 2 % 4 = c / 2 % 4 ∧ (c % 8 + 8 * G) / 8 = G := by
  obtain ⟨h1, h2⟩ := h
  unfold nc_ok
  omega
theorem nc_crF {s n i f : Int32} {c G : Nat} (H : nc_cr s n i f c) (hG : G < 16) : nc_cr (nI (c % 8 + 8 * G)) n i (nI G) (c % 8 + 8 * G) := by
  obtain ⟨ho, rfl, rfl, rfl, rfl⟩ := H
  have T := nc_setF ho hG
  exact ⟨T.1, rfl, by rw [T.2.1], by rw [T.2.2.1], by rw [T.2.2.2]⟩
theorem nc_crN {n i : Nat} (hn : n < 2) (hi : i < 3) : nc_cr (nI (n + 2 * i)) (nI n) (nI i) 0 (n + 2 * i) := by
  have e1 : (n + 2 * i) % 2 = n := by omega
  have e2 : (n + 2 * i) / 2 % 4 = i := by omega
  have e3 : (n + 2 * i) / 8 = 0 := by omega
  refine ⟨⟨by omega, by omega⟩, rfl, by rw [e1], by rw [e2], by rw [e3]; rfl⟩
theorem nc_cr0 {s n i f : Int32} {c : Nat} (H : nc_cr s n i f c) : nc_cr (s &&& 126) 0 i f (c - c % 2) := by
  obtain ⟨⟨h1, h2⟩, rfl, rfl, rfl, rfl⟩ := H
  have e1 : (c - c % 2) % 2 = 0 := by omega
  have e2 : (c - c % 2) / 2 % 4 = c / 2 % 4 := by omega
  have e3 : (c - c % 2) / 8 = c / 8 := by omega
  refine ⟨⟨by omega, by omega⟩, nc_e126 c h1, by rw [e1]; rfl, by rw [e2], by rw [e3]⟩
end
section
/-! arrays that a counted loop writes -/
def na_av (o : Int32 → Int32 → Int32) (s t : Nat → Int32) (st i : Nat) : Nat → Int32 := fun j => if st ≤ j ∧ j < st + i then o (s j) (t (j - st)) else s j
theorem na_av0 (o : Int32 → Int32 → Int32) (s t : Nat → Int32) (st : Nat) : na_av o s t st 0 = s := funext fun j => if_neg (by omega)
theorem na_avS (o : Int32 → Int32 → Int32) (s t : Nat → Int32) (st i : Nat) : na_av o s t st (i + 1) = upd (na_av o s t st i) (st + i) (o (s (st + i)) (t i)) := by
  funext j
  unfold na_av upd
  by_cases h : j = st + i
  · subst h
    rw [if_pos (by omega), if_pos rfl, show st + i - st = i from by omega]
  · rw [if_neg h]
    by_cases h2 : st ≤ j ∧ j < st + i
    · rw [if_pos (by omega)]
      exact (if_pos h2).symm
    · rw [if_neg (by omega)]
      exact (if_neg h2).symm
theorem na_avO {o : Int32 → Int32 → Int32} {s t : Nat → Int32} {st i j : Nat} (h : j < st ∨ st + i ≤ j) : na_av o s t st i j = s j := if_neg (by omega)
theorem na_avI {o : Int32 → Int32 → Int32} {s t : Nat → Int32} {st i l : Nat} (h : l < i) : na_av o s t st i (st + l) = o (s (st + l)) (t l) := by
  unfold na_av
  rw [if_pos (by omega), show st + l - st = l from by omega]
theorem na_avE {o : Int32 → Int32 → Int32} {s t : Nat → Int32} {st i : Nat} (h : o (s (st + i)) (t i) = s (st + i)) : na_av o s t st (i + 1) = na_av o s t st i := by
  rw [na_avS]
  funext j
  unfold upd
  by_cases e : j = st + i
  · rw [if_pos e, h, e, na_avO (by omega)]
  · rw [if_neg e]
def na_rs (s t : Nat → Int32) (st : Nat) : Nat → Int32
  | 0 => 0
  | i + 1 => if nc_xj (s (st + i)) (t i) = s (st + i) then na_rs s t st i else 1
def na_ch (z c0 : Int32) (sn si sf tn ti tf : Nat → Int32) (st : Nat) : Nat → Int32
  | 0 => c0
  | i + 1 => if nc_yn z (sn (st + i)) (tn i) = sn (st + i) ∧ nc_yi z (si (st + i)) (ti i) = si (st + i) ∧ nc_yf z (sf (st + i)) (tf i) = sf (st + i) then na_ch z c0 sn si sf tn ti tf st i else 1
theorem na_rs01 (s t : Nat → Int32) (st : Nat) : ∀ i, na_rs s t st i = 0 ∨ na_rs s t st i = 1
  | 0 => Or.inl rfl
  | i + 1 => by
    rw [na_rs]
    split
    · exact na_rs01 s t st i
    · exact Or.inr rfl
theorem na_rs1 (s t : Nat → Int32) (st : Nat) : ∀ i, na_rs s t st i = 1 → ∃ l, l < i ∧ nc_xj (s (st + l)) (t l) ≠ s (st + l)
  | 0 => fun h => absurd (show (0 : Int32) = 1 from h) (by decide)
  | i + 1 => by
    rw [na_rs]
    by_cases e : nc_xj (s (st + i)) (t i) = s (st + i)
    · rw [if_pos e]
      intro h
      obtain ⟨l, hl, hx⟩ := na_rs1 s t st i h
      exact ⟨l, by omega, hx⟩
    · intro _
      exact ⟨i, by omega, e⟩
def na_ld (s t : Nat → Int32) (st i : Nat) : Nat → Int32 := fun j => if j < i then s (st + j) else t j
theorem na_ld0 (s t : Nat → Int32) (st : Nat) : na_ld s t st 0 = t := funext fun j => if_neg (by omega)
theorem na_ldS (s t : Nat → Int32) (st i : Nat) : na_ld s t st (i + 1) = upd (na_ld s t st i) i (s (st + i)) := by
  funext j
  unfold na_ld upd
  by_cases h : j = i
  · subst h
    rw [if_pos (by omega), if_pos rfl]
  · rw [if_neg h]
    by_cases h2 : j < i
    · rw [if_pos (by omega)]
      exact (if_pos h2).symm
    · rw [if_neg (by omega)]
      exact (if_neg h2).symm
theorem na_ldI {s t : Nat → Int32} {st i l : Nat} (h : l < i) : na_ld s t st i l = s (st + l) := if_pos h
def na_mk (t : Nat → Int32) (m : Int32) (i : Nat) : Nat → Int32 := fun j => if j < i then t j &&& m else t j
theorem na_mk0 (t : Nat → Int32) (m : Int32) : na_mk t m 0 = t := funext fun j => if_neg (by omega)
theorem na_mkS (t : Nat → Int32) (m : Int32) (i : Nat) : na_mk t m (i + 1) = upd (na_mk t m i) i (t i &&& m) := by
  funext j
  unfold na_mk upd
  by_cases h : j = i
  · subst h
    rw [if_pos (by omega), if_pos rfl]
  · rw [if_neg h]
    by_cases h2 : j < i
    · rw [if_pos (by omega)]
      exact (if_pos h2).symm
    · rw [if_neg (by omega)]
      exact (if_neg h2).symm
theorem na_mkI {t : Nat → Int32} {m : Int32} {i l : Nat} (h : l < i) : na_mk t m i l = t l &&& m := if_pos h
theorem na_mkO {t : Nat → Int32} {m : Int32} {i l : Nat} (h : i ≤ l) : na_mk t m i l = t l := if_neg (by omega)
def na_fi (s : Nat → Int32) (st i : Nat) (v : Int32) : Nat → Int32 := fun j => if st ≤ j ∧ j < st + i then v else s j
theorem na_fi0 (s : Nat → Int32) (st : Nat) (v : Int32) : na_fi s st 0 v = s := funext fun j => if_neg (by omega)
theorem na_fiS (s : Nat → Int32) (st i : Nat) (v : Int32) : na_fi s st (i + 1) v = upd (na_fi s st i v) (st + i) v := by
  funext j
  unfold na_fi upd
  by_cases h : j = st + i
  · rw [if_pos (by omega), if_pos h]
  · rw [if_neg h]
    by_cases h2 : st ≤ j ∧ j < st + i
    · rw [if_pos (by omega)]
      exact (if_pos h2).symm
    · rw [if_neg (by omega)]
      exact (if_neg h2).symm
theorem na_fiI {s : Nat → Int32} {st i j : Nat} {v : Int32} (h : st ≤ j ∧ j < st + i) : na_fi s st i v j = v := if_pos h
theorem na_fiO {s : Nat → Int32} {st i j : Nat} {v : Int32} (h : j < st ∨ st + i ≤ j) : na_fi s st i v j = s j := if_neg (by omega)
/-! sums, for the number of rounds -/
def na_sm (f : Nat → Nat) : Nat → Nat
  | 0 => 0
  | n + 1 => na_sm f n + f n
theorem na_smB {f : Nat → Nat} {c : Nat} (h : ∀ j, f j ≤ c) : ∀ n, na_sm f n ≤ c * n
  | 0 => Nat.le_refl 0
  | n + 1 => by
    have := na_smB h n
    have := h n
    simp only [na_sm]
    rw [Nat.mul_add, Nat.mul_one]
    omega
theorem na_smL {f g : Nat → Nat} (h : ∀ j, f j ≤ g j) : ∀ n, na_sm f n ≤ na_sm g n
  | 0 => Nat.le_refl 0
  | n + 1 => by
    have := na_smL h n
    have := h n
    simp only [na_sm]
    omega
theorem na_smS {f g : Nat → Nat} (h : ∀ j, f j ≤ g j) : ∀ n, (∃ j, j < n ∧ f j < g j) → na_sm f n < na_sm g n
  | 0 => fun ⟨j, hj, _⟩ => absurd hj (by omega)
  | n + 1 => by
    rintro ⟨j, hj, hl⟩
    simp only [na_sm]
    by_cases e : j = n
    · subst e
      have := na_smL h j
      omega
    · have := na_smS h n ⟨j, by omega, hl⟩
      have := h n
      omega
/-! the relation of a point, and of the state on its way -/
def nr_pt (so rc sn si sf : Nat → Int32) (q : Nat) : Prop := (rc q = 0 ∧ ∀ l, l < 8 → so (q * 8 + l) = -1) ∨ (rc q = 1 ∧ ∀ l, l < 8 → ∃ c, nc_cr (so (q * 8 + l)) (sn (q * 8 + l)) (si (q * 8 + l)) (sf (q * 8 + l)) c)
def nr_er (ed tn ti tf : Nat → Int32) : Prop := ∀ l, l < 8 → ∃ c, nc_cr (ed l) (tn l) (ti l) (tf l) c
theorem nr_set {ed tn ti tf : Nat → Int32} {a : Nat} {s n i f : Int32} {c : Nat} (h : nr_er ed tn ti tf) (hc : nc_cr s n i f c) : nr_er (upd ed a s) (upd tn a n) (upd ti a i) (upd tf a f) := by
  intro l hl
  by_cases e : l = a
  · subst e
    rw [pk_us, pk_us, pk_us, pk_us]
    exact ⟨c, hc⟩
  · rw [pk_un e, pk_un e, pk_un e, pk_un e]
    exact h l hl
/-- r: what the component says of having risen -/
def nr_go (b : Nat) (so rc sn si sf so' rc' sn' si' sf' : Nat → Int32) (r : Int32) : Prop :=
  (r = 0 ∨ r = 1) ∧ (∀ q, nr_pt so rc sn si sf q → nr_pt so' rc' sn' si' sf' q) ∧ (∀ j, nc_gI (so' j) ≤ nc_gI (so j)) ∧
  (r = 1 → ∃ j, b * 264 ≤ j ∧ j < b * 264 + 264 ∧ nc_gI (so' j) < nc_gI (so j)) ∧ (∀ j, j < b * 264 → so' j = so j) ∧ (∀ j, b * 33 + 33 ≤ j → rc' j = rc j)
theorem nr_go0 {b : Nat} {so rc sn si sf : Nat → Int32} : nr_go b so rc sn si sf so rc sn si sf 0 :=
  ⟨Or.inl rfl, fun _ h => h, fun _ => Nat.le_refl _, fun h => absurd h (by decide), fun _ _ => rfl, fun _ _ => rfl⟩
theorem nr_goT {b : Nat} {so rc sn si sf so' rc' sn' si' sf' so'' rc'' sn'' si'' sf'' : Nat → Int32} {r r' : Int32} (h : nr_go b so rc sn si sf so' rc' sn' si' sf' r) (h' : nr_go b so' rc' sn' si' sf' so'' rc'' sn'' si'' sf'' r') : nr_go b so rc sn si sf so'' rc'' sn'' si'' sf'' (if r' = 0 then r else 1) := by
  obtain ⟨a1, a2, a3, a4, a5, a6⟩ := h
  obtain ⟨b1, b2, b3, b4, b5, b6⟩ := h'
  refine ⟨?_, fun q hq => b2 q (a2 q hq), fun j => Nat.le_trans (b3 j) (a3 j), ?_, fun j hj => (b5 j hj).trans (a5 j hj), fun j hj => (b6 j hj).trans (a6 j hj)⟩
  · split
    · exact a1
    · exact Or.inr rfl
  · intro e
    rcases b1 with z | z
    · rw [if_pos z] at e
      obtain ⟨j, h1, h2, h3⟩ := a4 e
      exact ⟨j, h1, h2, Nat.lt_of_le_of_lt (b3 j) h3⟩
    · obtain ⟨j, h1, h2, h3⟩ := b4 z
      exact ⟨j, h1, h2, Nat.lt_of_lt_of_le h3 (a3 j)⟩
theorem nr_pt1 {so rc sn si sf : Nat → Int32} {q : Nat} (h : nr_pt so rc sn si sf q) : (so (q * 8) = -1 ↔ rc q = 0) ∧ (rc q = 0 ∨ rc q = 1) := by
  rcases h with ⟨h1, h2⟩ | ⟨h1, h2⟩
  · exact ⟨⟨fun _ => h1, fun _ => h2 0 (by omega)⟩, Or.inl h1⟩
  · refine ⟨⟨fun e => ?_, fun e => ?_⟩, Or.inr h1⟩
    · obtain ⟨c, ho, hs, _⟩ := h2 0 (by omega)
      exact absurd (hs.symm.trans e) (nc_m1 (by have := ho.1; omega))
    · rw [h1] at e
      exact absurd e (by decide)
/-- a cell's value behind a join -/
theorem nr_cell {s n i f s' n' i' f' : Int32} {c : Nat} (h : s = -1 ∨ ∃ h, nc_cr s n i f h) (C : nc_cr s' n' i' f' c) : nc_gI (nc_xj s s') ≤ nc_gI s ∧ (nc_xj s s' ≠ s → nc_gI (nc_xj s s') < nc_gI s) := by
  rcases h with rfl | ⟨h, H⟩
  · rw [nc_xjF, nc_gF, C.2.1, nc_gN C.1.1]
    have := (nc_t5 c C.1.1).2
    exact ⟨by omega, fun _ => by omega⟩
  · have J := nc_crj H C
    have T := nc_t2 h H.1.1 c C.1.1 H.1.2 C.1.2
    rw [J.2.1, H.2.1, nc_gN J.1.1, nc_gN H.1.1]
    refine ⟨T.1, fun e => T.2.resolve_left fun e' => e (by rw [e'])⟩
section
variable {so rc sn si sf ed tn ti tf : Nat → Int32} {q : Nat} {z : Int32}
theorem nr_arP (hq : nr_pt so rc sn si sf q) (hE : nr_er ed tn ti tf) (hz : z = if rc q = 0 then 1 else 0) (q' : Nat) (h : nr_pt so rc sn si sf q') : nr_pt (na_av nc_xj so ed (q * 8) 8) (upd rc q 1) (na_av (nc_yn z) sn tn (q * 8) 8) (na_av (nc_yi z) si ti (q * 8) 8) (na_av (nc_yf z) sf tf (q * 8) 8) q' := by
  by_cases e : q' = q
  · subst e
    refine Or.inr ⟨pk_us, fun l hl => ?_⟩
    rw [na_avI hl, na_avI hl, na_avI hl, na_avI hl]
    obtain ⟨c, C⟩ := hE l hl
    rcases hq with ⟨h1, h2⟩ | ⟨h1, h2⟩
    · rw [if_pos h1] at hz
      subst hz
      exact ⟨c, nc_crf (h2 l hl) C⟩
    · rw [if_neg (by rw [h1]; decide)] at hz
      subst hz
      obtain ⟨d, D⟩ := h2 l hl
      exact ⟨_, nc_crj D C⟩
  · have o : ∀ l, l < 8 → q' * 8 + l < q * 8 ∨ q * 8 + 8 ≤ q' * 8 + l := fun l hl => by omega
    rcases h with ⟨h1, h2⟩ | ⟨h1, h2⟩
    · refine Or.inl ⟨by rw [pk_un e, h1], fun l hl => ?_⟩
      rw [na_avO (o l hl)]
      exact h2 l hl
    · refine Or.inr ⟨by rw [pk_un e, h1], fun l hl => ?_⟩
      rw [na_avO (o l hl), na_avO (o l hl), na_avO (o l hl), na_avO (o l hl)]
      exact h2 l hl
theorem nr_arC (hq : nr_pt so rc sn si sf q) (hE : nr_er ed tn ti tf) {l : Nat} (hl : l < 8) : nc_gI (nc_xj (so (q * 8 + l)) (ed l)) ≤ nc_gI (so (q * 8 + l)) ∧ (nc_xj (so (q * 8 + l)) (ed l) ≠ so (q * 8 + l) → nc_gI (nc_xj (so (q * 8 + l)) (ed l)) < nc_gI (so (q * 8 + l))) := by
  obtain ⟨c, C⟩ := hE l hl
  rcases hq with ⟨_, h2⟩ | ⟨_, h2⟩
  · exact nr_cell (n := 0) (i := 0) (f := 0) (Or.inl (h2 l hl)) C
  · exact nr_cell (Or.inr (h2 l hl)) C
theorem nr_arG {b : Nat} (hb : b * 33 ≤ q) (hb2 : q < b * 33 + 33) (hq : nr_pt so rc sn si sf q) (hE : nr_er ed tn ti tf) (hz : z = if rc q = 0 then 1 else 0) : nr_go b so rc sn si sf (na_av nc_xj so ed (q * 8) 8) (upd rc q 1) (na_av (nc_yn z) sn tn (q * 8) 8) (na_av (nc_yi z) si ti (q * 8) 8) (na_av (nc_yf z) sf tf (q * 8) 8) (na_rs so ed (q * 8) 8) := by
  refine ⟨na_rs01 _ _ _ _, nr_arP hq hE hz, fun j => ?_, fun e => ?_, fun j hj => na_avO (by omega), fun j hj => pk_un (by omega)⟩
  · by_cases h : q * 8 ≤ j ∧ j < q * 8 + 8
    · obtain ⟨l, rfl⟩ : ∃ l, j = q * 8 + l := ⟨j - q * 8, by omega⟩
      rw [na_avI (by omega)]
      exact (nr_arC hq hE (by omega)).1
    · rw [na_avO (by omega)]
      exact Nat.le_refl _
  · obtain ⟨l, hl, hx⟩ := na_rs1 _ _ _ _ e
    refine ⟨q * 8 + l, by omega, by omega, ?_⟩
    rw [na_avI hl]
    exact (nr_arC hq hE hl).2 hx
theorem nr_arH (hq : nr_pt so rc sn si sf q) (hE : nr_er ed tn ti tf) (hz : z = if rc q = 0 then 1 else 0) (c0 : Int32) : na_ch z (if z = 0 then c0 else 1) sn si sf tn ti tf (q * 8) 8 = (if na_rs so ed (q * 8) 8 = 0 then c0 else 1) := by
  rcases hq with ⟨h1, h2⟩ | ⟨h1, h2⟩
  · rw [if_pos h1] at hz
    subst hz
    have A : ∀ i, na_ch 1 1 sn si sf tn ti tf (q * 8) i = 1 := by
      intro i
      induction i with
      | zero => rfl
      | succ i ih => rw [na_ch]; split <;> first | exact ih | rfl
    have B : ∀ i, i < 8 → na_rs so ed (q * 8) (i + 1) = 1 := by
      intro i hi
      obtain ⟨c, C⟩ := hE i hi
      rw [na_rs]
      rw [h2 i hi, nc_xjF, if_neg]
      rw [C.2.1]
      exact nc_m1 (by have := C.1.1; omega)
    have B8 : na_rs so ed (q * 8) 8 = 1 := B 7 (by omega)
    rw [if_neg (by decide), A 8, B8, if_neg (by decide)]
  · rw [if_neg (by rw [h1]; decide)] at hz
    subst hz
    have A : ∀ i, i ≤ 8 → na_ch 0 c0 sn si sf tn ti tf (q * 8) i = (if na_rs so ed (q * 8) i = 0 then c0 else 1) := by
      intro i
      induction i with
      | zero => intro _; rfl
      | succ i ih =>
        intro hi
        obtain ⟨c, C⟩ := hE i (by omega)
        obtain ⟨d, D⟩ := h2 i (by omega)
        have J := nc_crj D C
        have E := nc_same D J
        rw [na_ch, na_rs]
        by_cases e : nc_xj (so (q * 8 + i)) (ed i) = so (q * 8 + i)
        · rw [if_pos (E.mp e), if_pos e]
          exact ih (by omega)
        · rw [if_neg (fun h => e (E.mpr h)), if_neg e, if_neg (by decide)]
    rw [if_pos rfl]
    exact A 8 (Nat.le_refl 8)
theorem nr_keep {q' l : Nat} (hl : l < 8) (h1 : rc q' = 1) (hz : z = if rc q = 0 then 1 else 0) (e : q' = q → tn l = sn (q * 8 + l) ∧ ti l = si (q * 8 + l) ∧ tf l = sf (q * 8 + l)) : na_av (nc_yn z) sn tn (q * 8) 8 (q' * 8 + l) = sn (q' * 8 + l) ∧ na_av (nc_yi z) si ti (q * 8) 8 (q' * 8 + l) = si (q' * 8 + l) ∧ na_av (nc_yf z) sf tf (q * 8) 8 (q' * 8 + l) = sf (q' * 8 + l) := by
  by_cases d : q' = q
  · subst d
    obtain ⟨e1, e2, e3⟩ := e rfl
    rw [if_neg (by rw [h1]; decide)] at hz
    subst hz
    rw [na_avI hl, na_avI hl, na_avI hl, e1, e2, e3]
    refine ⟨?_, ?_, ?_⟩
    · unfold nc_yn
      rw [if_pos rfl]
      split <;> rfl
    · unfold nc_yi
      rw [if_pos rfl, if_pos rfl]
    · unfold nc_yf
      rw [if_pos rfl, Int32.and_self]
  · rw [na_avO (by omega), na_avO (by omega), na_avO (by omega)]
    exact ⟨rfl, rfl, rfl⟩
end
end
section
/-! masks of field kinds -/
def ne_xf (fk ed : Nat → Int32) : Nat → Nat → Int32
  | 0 => ed
  | f + 1 => if fk f = 1 then na_mk (ne_xf fk ed f) (((8 : Int32) <<< (nI f &&& 31)) ^^^ (-1)) 8 else ne_xf fk ed f
def ne_ym (fk : Nat → Int32) : Nat → Int32
  | 0 => 0
  | f + 1 => if fk f = 0 then ne_ym fk f ||| ((1 : Int32) <<< (nI f &&& 31)) else ne_ym fk f
def ne_K (fk : Nat → Int32) : Nat → Nat
  | 0 => 15
  | f + 1 => if fk f = 1 then ne_K fk f &&& (15 - 2 ^ f) else ne_K fk f
def ne_M (fk : Nat → Int32) : Nat → Nat
  | 0 => 0
  | f + 1 => if fk f = 0 then ne_M fk f ||| 2 ^ f else ne_M fk f
theorem ne_K16 (fk : Nat → Int32) : ∀ k, ne_K fk k < 16
  | 0 => (by decide : (15 : Nat) < 16)
  | k + 1 => by
    rw [ne_K]
    have := ne_K16 fk k
    split
    · exact Nat.lt_of_le_of_lt Nat.and_le_left this
    · exact this
theorem ne_M16 (fk : Nat → Int32) : ∀ k, k ≤ 4 → ne_M fk k < 16
  | 0 => fun _ => (by decide : (0 : Nat) < 16)
  | k + 1 => fun h => by
    rw [ne_M]
    have := ne_M16 fk k (by omega)
    split
    · exact (nc_b1 k (by omega) _ this).1
    · exact this
theorem ne_KM {fk : Nat → Int32} (h : ∀ j, j < 4 → fk j = 0 ∨ fk j = 1) : ne_K fk 4 = ne_M fk 4 := by
  rcases h 0 (by omega) with h0 | h0 <;> rcases h 1 (by omega) with h1 | h1 <;> rcases h 2 (by omega) with h2 | h2 <;> rcases h 3 (by omega) with h3 | h3 <;> simp only [ne_K, ne_M, h0, h1, h2, h3] <;> decide
theorem ne_ymM (fk : Nat → Int32) : ∀ k, k ≤ 4 → ne_ym fk k = nI (ne_M fk k)
  | 0 => fun _ => rfl
  | k + 1 => fun h => by
    rw [ne_ym, ne_M]
    have ih := ne_ymM fk k (by omega)
    split
    · rw [ih, nc_ePy k (by omega) _ (ne_M16 fk k (by omega))]
    · exact ih
theorem ne_15 : ∀ c, c < 16 → c &&& 15 = c := by decide +kernel
theorem ne_xfC (fk ed : Nat → Int32) {l c : Nat} (hl : l < 8) (hc : c < 128) (e : ed l = nI c) : ∀ k, k ≤ 4 → ne_xf fk ed k l = nI (c % 8 + 8 * (c / 8 &&& ne_K fk k))
  | 0 => fun _ => by
    show ed l = _
    rw [e]
    rw [ne_K]
    rw [ne_15 _ (by omega)]
    exact congrArg nI (by omega)
  | k + 1 => fun h => by
    rw [ne_xf, ne_K]
    have ih := ne_xfC fk ed hl hc e k (by omega)
    split
    · have hb : (c / 8 &&& ne_K fk k) < 16 := Nat.lt_of_le_of_lt Nat.and_le_left (by omega)
      rw [na_mkI hl, ih, nc_eF k (by omega) _ (by omega), show (c % 8 + 8 * (c / 8 &&& ne_K fk k)) % 8 = c % 8 from by omega, show (c % 8 + 8 * (c / 8 &&& ne_K fk k)) / 8 = (c / 8 &&& ne_K fk k) from by omega, Nat.and_assoc]
    · exact ih
theorem ne_new {fk ed tn ti tf : Nat → Int32} (h : ∀ j, j < 4 → fk j = 0 ∨ fk j = 1) (hE : nr_er ed tn ti tf) : nr_er (ne_xf fk ed 4) tn ti (na_mk tf (ne_ym fk 4) 8) := by
  intro l hl
  obtain ⟨c, C⟩ := hE l hl
  have hM := ne_M16 fk 4 (by omega)
  have hc := C.1.1
  have hb : (c / 8 &&& ne_M fk 4) < 16 := Nat.lt_of_le_of_lt Nat.and_le_left (by omega)
  rw [ne_xfC fk ed hl hc C.2.1 4 (by omega), na_mkI hl, ne_ymM fk 4 (by omega), ne_KM h, C.2.2.2.2, nx_and]
  exact ⟨_, nc_crF C hb⟩
theorem ne_all4 (P : Nat → Prop) : (∀ f, f < 4 → P f) ↔ P 0 ∧ P 1 ∧ P 2 ∧ P 3 := by
  constructor
  · intro h
    exact ⟨h 0 (by omega), h 1 (by omega), h 2 (by omega), h 3 (by omega)⟩
  · rintro ⟨a, b, c, d⟩ f hf
    match f, hf with
    | 0, _ => exact a
    | 1, _ => exact b
    | 2, _ => exact c
    | 3, _ => exact d
theorem ne_endM {fk : Nat → Int32} (h : ∀ j, j < 4 → fk j = 0 ∨ fk j = 1) : ∀ g, g < 16 → ((g &&& ne_M fk 4 = ne_M fk 4) ↔ ∀ f, f < 4 → (fk f = 0 → g / 2 ^ f % 2 ≠ 0)) := by
  intro g hg
  refine Iff.trans ?_ (ne_all4 (fun f => fk f = 0 → g / 2 ^ f % 2 ≠ 0)).symm
  revert g
  rcases h 0 (by omega) with h0 | h0 <;> rcases h 1 (by omega) with h1 | h1 <;> rcases h 2 (by omega) with h2 | h2 <;> rcases h 3 (by omega) with h3 | h3 <;> simp only [ne_M, h0, h1, h2, h3] <;> decide +kernel
theorem ne_end {fk : Nat → Int32} (h : ∀ j, j < 4 → fk j = 0 ∨ fk j = 1) {c : Nat} (hc : c < 128) : (nI (c / 8) &&& ne_ym fk 4 = ne_ym fk 4) ↔ ∀ f, f < 4 → (fk f = 0 → c / 8 / 2 ^ f % 2 ≠ 0) := by
  have hM := ne_M16 fk 4 (by omega)
  have hb : (c / 8 &&& ne_M fk 4) < 16 := Nat.lt_of_le_of_lt Nat.and_le_left (by omega)
  rw [ne_ymM fk 4 (by omega), nx_and, nI_eq (by omega) (by omega)]
  exact ne_endM h _ (by omega)
/-! forgetting one field, putting one field -/
theorem ne_fgt {ed tn ti tf : Nat → Int32} {f : Nat} (hf : f < 4) (hE : nr_er ed tn ti tf) : nr_er (na_mk ed (((8 : Int32) <<< (nI f &&& 31)) ^^^ (-1)) 8) tn ti (na_mk tf (((1 : Int32) <<< (nI f &&& 31)) ^^^ (-1)) 8) := by
  intro l hl
  obtain ⟨c, C⟩ := hE l hl
  have hc := C.1.1
  rw [na_mkI hl, na_mkI hl, C.2.1, C.2.2.2.2, nc_eF f hf _ hc, nc_eFy f hf _ (by omega)]
  exact ⟨_, nc_crF C (nc_b1 f hf _ (by omega)).2⟩
theorem ne_put {s n i F : Int32} {f c : Nat} (hf : f < 4) (C : nc_cr s n i F c) : ∃ d, nc_cr (s ||| ((8 : Int32) <<< (nI f &&& 31))) n i (F ||| ((1 : Int32) <<< (nI f &&& 31))) d := by
  have hc := C.1.1
  refine ⟨c % 8 + 8 * (c / 8 ||| 2 ^ f), ?_⟩
  have e1 : s ||| ((8 : Int32) <<< (nI f &&& 31)) = nI (c % 8 + 8 * (c / 8 ||| 2 ^ f)) := by
    rw [C.2.1]
    exact nc_eP f hf _ hc
  have e2 : F ||| ((1 : Int32) <<< (nI f &&& 31)) = nI (c / 8 ||| 2 ^ f) := by
    rw [C.2.2.2.2]
    exact nc_ePy f hf _ (by omega)
  rw [e1, e2]
  exact nc_crF C (nc_b1 f hf (c / 8) (by omega)).1
theorem ne_kn {s n i F : Int32} {f c : Nat} (hf : f < 4) (C : nc_cr s n i F c) : ((s &&& ((8 : Int32) <<< (nI f &&& 31))) = 0 ↔ ((F >>> (nI f &&& 31)) &&& 1) = 0) := by
  have hc := C.1.1
  rw [C.2.1, C.2.2.2.2, nc_eK f hf c hc, nc_eKy f hf _ (by omega)]
theorem ne_nu {s n i F : Int32} {c : Nat} (C : nc_cr s n i F c) : s &&& 1 = n ∧ (n = 0 ∨ n = 1) := by
  rw [C.2.1, C.2.2.1, nc_e1]
  refine ⟨rfl, ?_⟩
  have : c % 2 = 0 ∨ c % 2 = 1 := by omega
  rcases this with e | e <;> rw [e]
  · exact Or.inl rfl
  · exact Or.inr rfl
theorem ne_ini {s n i F : Int32} {c : Nat} (C : nc_cr s n i F c) : (s &&& 6) / 2 = i ∧ (i = 0 ∨ i = 1 ∨ i = 2) := by
  have hc := C.1.1
  have h3 := C.1.2
  rw [C.2.1, C.2.2.2.1, nc_e6 c hc]
  refine ⟨rfl, ?_⟩
  have : c / 2 % 4 = 0 ∨ c / 2 % 4 = 1 ∨ c / 2 % 4 = 2 := by omega
  rcases this with e | e | e <;> rw [e]
  · exact Or.inl rfl
  · exact Or.inr (Or.inl rfl)
  · exact Or.inr (Or.inr rfl)
theorem ne_mkc {n i : Int32} (hn : n = 0 ∨ n = 1) (hi : i = 0 ∨ i = 1 ∨ i = 2) : ∃ c, nc_cr (n + 2 * i) n i 0 c := by
  rcases hn with rfl | rfl <;> rcases hi with rfl | rfl | rfl
  · exact ⟨_, nc_crN (n := 0) (i := 0) (by omega) (by omega)⟩
  · exact ⟨_, nc_crN (n := 0) (i := 1) (by omega) (by omega)⟩
  · exact ⟨_, nc_crN (n := 0) (i := 2) (by omega) (by omega)⟩
  · exact ⟨_, nc_crN (n := 1) (i := 0) (by omega) (by omega)⟩
  · exact ⟨_, nc_crN (n := 1) (i := 1) (by omega) (by omega)⟩
  · exact ⟨_, nc_crN (n := 1) (i := 2) (by omega) (by omega)⟩
/-! the measure of a block -/
def nr_mu (so : Nat → Int32) (b : Nat) : Nat := na_sm (fun j => nc_gI (so (b * 264 + j))) 264
theorem nc_g7 (s : Int32) : nc_gI s ≤ 7 := by
  unfold nc_gI
  split
  · exact Nat.le_refl 7
  · generalize s.toNatClampNeg = c
    unfold nc_g
    split <;> omega
theorem nr_muB (so : Nat → Int32) (b : Nat) : nr_mu so b ≤ 1848 := na_smB (c := 7) (fun j => nc_g7 _) 264
theorem nr_muG {b : Nat} {so rc sn si sf so' rc' sn' si' sf' : Nat → Int32} {r : Int32} (h : nr_go b so rc sn si sf so' rc' sn' si' sf' r) : nr_mu so' b ≤ nr_mu so b ∧ (r = 1 → nr_mu so' b < nr_mu so b) := by
  obtain ⟨_, _, h3, h4, _, _⟩ := h
  refine ⟨na_smL (fun j => h3 _) 264, fun e => na_smS (fun j => h3 _) 264 ?_⟩
  obtain ⟨j, h1, h2, h5⟩ := h4 e
  refine ⟨j - b * 264, by omega, ?_⟩
  rw [show b * 264 + (j - b * 264) = j from by omega]
  exact h5
/-! what holds of the program and of the machine -/
def nv_vl (O : Nat) (x : Int32) : Prop := x = -1 ∨ ∃ q, q < O ∧ x = nI q
def nv_in (o A B K : Nat) : Prop := o < 10 ∧ A < 33 ∧ B < 33 ∧ K < 8 ∧ (o ≠ 7 → A < 8) ∧ (o = 1 ∨ o = 3 → B < 8) ∧ (o = 2 → 1 ≤ B ∧ B < 4) ∧ (o = 4 → B < 4) ∧ (o = 3 → K < 4)
def nv_pg (L : Nat → Nat) (pg : Nat → Int32) : Prop := ∀ b, b < 4 → ∀ p, p < L b → ∃ o A B K, pg ((b * 32 + p) * 4) = nI o ∧ pg ((b * 32 + p) * 4 + 1) = nI A ∧ pg ((b * 32 + p) * 4 + 2) = nI B ∧ pg ((b * 32 + p) * 4 + 3) = nI K ∧ nv_in o A B K
def nv_de (fk pn pi : Nat → Int32) : Prop := (∀ j, j < 4 → fk j = 0 ∨ fk j = 1) ∧ (∀ j, j < 4 → pn j = 0 ∨ pn j = 1) ∧ (∀ j, j < 4 → pi j = 0 ∨ pi j = 1 ∨ pi j = 2)
def nv_ln (L : Nat → Nat) (C : Nat) (ln : Nat → Int32) : Prop := ∀ j, j < 4 → ln j = nI (L j) ∧ L j ≤ C
def nv_fr (O k : Nat) (fr : Nat → Int32) : Prop := (∀ s, s < 8 → nv_vl O (fr (k * 12 + s))) ∧ (∃ b, b < 4 ∧ fr (k * 12 + 8) = nI b) ∧ (∃ p, p < 33 ∧ fr (k * 12 + 9) = nI p) ∧ (0 < k → (∃ d, d < 8 ∧ fr (k * 12 + 10) = nI d) ∧ ∃ q, q < O ∧ fr (k * 12 + 11) = nI q)
def nv_M (O F U H D : Nat) (hp fr : Nat → Int32) : Prop := O ≤ H ∧ F ≤ D ∧ U ≤ 16 ∧ (∀ j, j < O * 4 → nv_vl O (hp j)) ∧ ∀ k, k < F → nv_fr O k fr
def nv_C (C H D : Nat) (cc hc md : Int32) : Prop := cc = nI C ∧ hc = nI H ∧ md = nI D ∧ 8 ≤ C ∧ C ≤ 32 ∧ H ≤ 32 ∧ 1 ≤ D ∧ D ≤ 8
def nr_S (B : Nat) (L : Nat → Nat) (so rc sn si sf : Nat → Int32) : Prop := ∀ b, b < B → ∀ p, p ≤ L b → nr_pt so rc sn si sf (b * 33 + p)
theorem nv_vlm {O O' : Nat} (h : O ≤ O') {x : Int32} (hx : nv_vl O x) : nv_vl O' x := by
  rcases hx with e | ⟨q, hq, e⟩
  · exact Or.inl e
  · exact Or.inr ⟨q, by omega, e⟩
theorem nv_lt {O : Nat} {x : Int32} (hO : O ≤ 2 ^ 30) (h : nv_vl O x) : (x < 0 ↔ x = -1) := by
  rcases h with rfl | ⟨q, hq, rfl⟩
  · exact ⟨fun _ => rfl, fun _ => by decide⟩
  · exact ⟨fun e => absurd e (nI_pos (by omega)), fun e => absurd e (nc_m1 (by omega))⟩
end
section
/-! nI against a literal -/
theorem nl_le0 {j : Nat} (h : j < 2 ^ 31) : (nI j ≤ (0 : Int32)) ↔ j ≤ 0 := nI_leI (b := 0) h (by decide)
theorem nl_lt0 {j : Nat} (h : j < 2 ^ 31) : (nI j < (0 : Int32)) ↔ j < 0 := nI_ltI (b := 0) h (by decide)
theorem nl_ge0 {j : Nat} (h : j < 2 ^ 31) : ((0 : Int32) ≤ nI j) ↔ 0 ≤ j := nI_leI (a := 0) (by decide) h
theorem nl_gt0 {j : Nat} (h : j < 2 ^ 31) : ((0 : Int32) < nI j) ↔ 0 < j := nI_ltI (a := 0) (by decide) h
theorem nl_eq0 {j : Nat} (h : j < 2 ^ 31) : (nI j = (0 : Int32)) ↔ j = 0 := nI_eq (b := 0) h (by decide)
theorem nl_le1 {j : Nat} (h : j < 2 ^ 31) : (nI j ≤ (1 : Int32)) ↔ j ≤ 1 := nI_leI (b := 1) h (by decide)
theorem nl_lt1 {j : Nat} (h : j < 2 ^ 31) : (nI j < (1 : Int32)) ↔ j < 1 := nI_ltI (b := 1) h (by decide)
theorem nl_ge1 {j : Nat} (h : j < 2 ^ 31) : ((1 : Int32) ≤ nI j) ↔ 1 ≤ j := nI_leI (a := 1) (by decide) h
theorem nl_gt1 {j : Nat} (h : j < 2 ^ 31) : ((1 : Int32) < nI j) ↔ 1 < j := nI_ltI (a := 1) (by decide) h
theorem nl_eq1 {j : Nat} (h : j < 2 ^ 31) : (nI j = (1 : Int32)) ↔ j = 1 := nI_eq (b := 1) h (by decide)
theorem nl_le2 {j : Nat} (h : j < 2 ^ 31) : (nI j ≤ (2 : Int32)) ↔ j ≤ 2 := nI_leI (b := 2) h (by decide)
theorem nl_lt2 {j : Nat} (h : j < 2 ^ 31) : (nI j < (2 : Int32)) ↔ j < 2 := nI_ltI (b := 2) h (by decide)
theorem nl_ge2 {j : Nat} (h : j < 2 ^ 31) : ((2 : Int32) ≤ nI j) ↔ 2 ≤ j := nI_leI (a := 2) (by decide) h
theorem nl_gt2 {j : Nat} (h : j < 2 ^ 31) : ((2 : Int32) < nI j) ↔ 2 < j := nI_ltI (a := 2) (by decide) h
theorem nl_eq2 {j : Nat} (h : j < 2 ^ 31) : (nI j = (2 : Int32)) ↔ j = 2 := nI_eq (b := 2) h (by decide)
theorem nl_le3 {j : Nat} (h : j < 2 ^ 31) : (nI j ≤ (3 : Int32)) ↔ j ≤ 3 := nI_leI (b := 3) h (by decide)
theorem nl_lt3 {j : Nat} (h : j < 2 ^ 31) : (nI j < (3 : Int32)) ↔ j < 3 := nI_ltI (b := 3) h (by decide)
theorem nl_ge3 {j : Nat} (h : j < 2 ^ 31) : ((3 : Int32) ≤ nI j) ↔ 3 ≤ j := nI_leI (a := 3) (by decide) h
theorem nl_gt3 {j : Nat} (h : j < 2 ^ 31) : ((3 : Int32) < nI j) ↔ 3 < j := nI_ltI (a := 3) (by decide) h
theorem nl_eq3 {j : Nat} (h : j < 2 ^ 31) : (nI j = (3 : Int32)) ↔ j = 3 := nI_eq (b := 3) h (by decide)
theorem nl_le4 {j : Nat} (h : j < 2 ^ 31) : (nI j ≤ (4 : Int32)) ↔ j ≤ 4 := nI_leI (b := 4) h (by decide)
theorem nl_lt4 {j : Nat} (h : j < 2 ^ 31) : (nI j < (4 : Int32)) ↔ j < 4 := nI_ltI (b := 4) h (by decide)
theorem nl_ge4 {j : Nat} (h : j < 2 ^ 31) : ((4 : Int32) ≤ nI j) ↔ 4 ≤ j := nI_leI (a := 4) (by decide) h
theorem nl_gt4 {j : Nat} (h : j < 2 ^ 31) : ((4 : Int32) < nI j) ↔ 4 < j := nI_ltI (a := 4) (by decide) h
theorem nl_eq4 {j : Nat} (h : j < 2 ^ 31) : (nI j = (4 : Int32)) ↔ j = 4 := nI_eq (b := 4) h (by decide)
theorem nl_le5 {j : Nat} (h : j < 2 ^ 31) : (nI j ≤ (5 : Int32)) ↔ j ≤ 5 := nI_leI (b := 5) h (by decide)
theorem nl_lt5 {j : Nat} (h : j < 2 ^ 31) : (nI j < (5 : Int32)) ↔ j < 5 := nI_ltI (b := 5) h (by decide)
theorem nl_ge5 {j : Nat} (h : j < 2 ^ 31) : ((5 : Int32) ≤ nI j) ↔ 5 ≤ j := nI_leI (a := 5) (by decide) h
theorem nl_gt5 {j : Nat} (h : j < 2 ^ 31) : ((5 : Int32) < nI j) ↔ 5 < j := nI_ltI (a := 5) (by decide) h
theorem nl_eq5 {j : Nat} (h : j < 2 ^ 31) : (nI j = (5 : Int32)) ↔ j = 5 := nI_eq (b := 5) h (by decide)
theorem nl_le6 {j : Nat} (h : j < 2 ^ 31) : (nI j ≤ (6 : Int32)) ↔ j ≤ 6 := nI_leI (b := 6) h (by decide)
theorem nl_lt6 {j : Nat} (h : j < 2 ^ 31) : (nI j < (6 : Int32)) ↔ j < 6 := nI_ltI (b := 6) h (by decide)
theorem nl_ge6 {j : Nat} (h : j < 2 ^ 31) : ((6 : Int32) ≤ nI j) ↔ 6 ≤ j := nI_leI (a := 6) (by decide) h
theorem nl_gt6 {j : Nat} (h : j < 2 ^ 31) : ((6 : Int32) < nI j) ↔ 6 < j := nI_ltI (a := 6) (by decide) h
theorem nl_eq6 {j : Nat} (h : j < 2 ^ 31) : (nI j = (6 : Int32)) ↔ j = 6 := nI_eq (b := 6) h (by decide)
theorem nl_le7 {j : Nat} (h : j < 2 ^ 31) : (nI j ≤ (7 : Int32)) ↔ j ≤ 7 := nI_leI (b := 7) h (by decide)
theorem nl_lt7 {j : Nat} (h : j < 2 ^ 31) : (nI j < (7 : Int32)) ↔ j < 7 := nI_ltI (b := 7) h (by decide)
theorem nl_ge7 {j : Nat} (h : j < 2 ^ 31) : ((7 : Int32) ≤ nI j) ↔ 7 ≤ j := nI_leI (a := 7) (by decide) h
theorem nl_gt7 {j : Nat} (h : j < 2 ^ 31) : ((7 : Int32) < nI j) ↔ 7 < j := nI_ltI (a := 7) (by decide) h
theorem nl_eq7 {j : Nat} (h : j < 2 ^ 31) : (nI j = (7 : Int32)) ↔ j = 7 := nI_eq (b := 7) h (by decide)
theorem nl_le8 {j : Nat} (h : j < 2 ^ 31) : (nI j ≤ (8 : Int32)) ↔ j ≤ 8 := nI_leI (b := 8) h (by decide)
theorem nl_lt8 {j : Nat} (h : j < 2 ^ 31) : (nI j < (8 : Int32)) ↔ j < 8 := nI_ltI (b := 8) h (by decide)
theorem nl_ge8 {j : Nat} (h : j < 2 ^ 31) : ((8 : Int32) ≤ nI j) ↔ 8 ≤ j := nI_leI (a := 8) (by decide) h
theorem nl_gt8 {j : Nat} (h : j < 2 ^ 31) : ((8 : Int32) < nI j) ↔ 8 < j := nI_ltI (a := 8) (by decide) h
theorem nl_eq8 {j : Nat} (h : j < 2 ^ 31) : (nI j = (8 : Int32)) ↔ j = 8 := nI_eq (b := 8) h (by decide)
theorem nl_le9 {j : Nat} (h : j < 2 ^ 31) : (nI j ≤ (9 : Int32)) ↔ j ≤ 9 := nI_leI (b := 9) h (by decide)
theorem nl_lt9 {j : Nat} (h : j < 2 ^ 31) : (nI j < (9 : Int32)) ↔ j < 9 := nI_ltI (b := 9) h (by decide)
theorem nl_ge9 {j : Nat} (h : j < 2 ^ 31) : ((9 : Int32) ≤ nI j) ↔ 9 ≤ j := nI_leI (a := 9) (by decide) h
theorem nl_gt9 {j : Nat} (h : j < 2 ^ 31) : ((9 : Int32) < nI j) ↔ 9 < j := nI_ltI (a := 9) (by decide) h
theorem nl_eq9 {j : Nat} (h : j < 2 ^ 31) : (nI j = (9 : Int32)) ↔ j = 9 := nI_eq (b := 9) h (by decide)
theorem nl_le10 {j : Nat} (h : j < 2 ^ 31) : (nI j ≤ (10 : Int32)) ↔ j ≤ 10 := nI_leI (b := 10) h (by decide)
theorem nl_lt10 {j : Nat} (h : j < 2 ^ 31) : (nI j < (10 : Int32)) ↔ j < 10 := nI_ltI (b := 10) h (by decide)
theorem nl_ge10 {j : Nat} (h : j < 2 ^ 31) : ((10 : Int32) ≤ nI j) ↔ 10 ≤ j := nI_leI (a := 10) (by decide) h
theorem nl_gt10 {j : Nat} (h : j < 2 ^ 31) : ((10 : Int32) < nI j) ↔ 10 < j := nI_ltI (a := 10) (by decide) h
theorem nl_eq10 {j : Nat} (h : j < 2 ^ 31) : (nI j = (10 : Int32)) ↔ j = 10 := nI_eq (b := 10) h (by decide)
theorem nl_le11 {j : Nat} (h : j < 2 ^ 31) : (nI j ≤ (11 : Int32)) ↔ j ≤ 11 := nI_leI (b := 11) h (by decide)
theorem nl_lt11 {j : Nat} (h : j < 2 ^ 31) : (nI j < (11 : Int32)) ↔ j < 11 := nI_ltI (b := 11) h (by decide)
theorem nl_ge11 {j : Nat} (h : j < 2 ^ 31) : ((11 : Int32) ≤ nI j) ↔ 11 ≤ j := nI_leI (a := 11) (by decide) h
theorem nl_gt11 {j : Nat} (h : j < 2 ^ 31) : ((11 : Int32) < nI j) ↔ 11 < j := nI_ltI (a := 11) (by decide) h
theorem nl_eq11 {j : Nat} (h : j < 2 ^ 31) : (nI j = (11 : Int32)) ↔ j = 11 := nI_eq (b := 11) h (by decide)
theorem nl_le12 {j : Nat} (h : j < 2 ^ 31) : (nI j ≤ (12 : Int32)) ↔ j ≤ 12 := nI_leI (b := 12) h (by decide)
theorem nl_lt12 {j : Nat} (h : j < 2 ^ 31) : (nI j < (12 : Int32)) ↔ j < 12 := nI_ltI (b := 12) h (by decide)
theorem nl_ge12 {j : Nat} (h : j < 2 ^ 31) : ((12 : Int32) ≤ nI j) ↔ 12 ≤ j := nI_leI (a := 12) (by decide) h
theorem nl_gt12 {j : Nat} (h : j < 2 ^ 31) : ((12 : Int32) < nI j) ↔ 12 < j := nI_ltI (a := 12) (by decide) h
theorem nl_eq12 {j : Nat} (h : j < 2 ^ 31) : (nI j = (12 : Int32)) ↔ j = 12 := nI_eq (b := 12) h (by decide)
theorem nl_le13 {j : Nat} (h : j < 2 ^ 31) : (nI j ≤ (13 : Int32)) ↔ j ≤ 13 := nI_leI (b := 13) h (by decide)
theorem nl_lt13 {j : Nat} (h : j < 2 ^ 31) : (nI j < (13 : Int32)) ↔ j < 13 := nI_ltI (b := 13) h (by decide)
theorem nl_ge13 {j : Nat} (h : j < 2 ^ 31) : ((13 : Int32) ≤ nI j) ↔ 13 ≤ j := nI_leI (a := 13) (by decide) h
theorem nl_gt13 {j : Nat} (h : j < 2 ^ 31) : ((13 : Int32) < nI j) ↔ 13 < j := nI_ltI (a := 13) (by decide) h
theorem nl_eq13 {j : Nat} (h : j < 2 ^ 31) : (nI j = (13 : Int32)) ↔ j = 13 := nI_eq (b := 13) h (by decide)
theorem nl_le14 {j : Nat} (h : j < 2 ^ 31) : (nI j ≤ (14 : Int32)) ↔ j ≤ 14 := nI_leI (b := 14) h (by decide)
theorem nl_lt14 {j : Nat} (h : j < 2 ^ 31) : (nI j < (14 : Int32)) ↔ j < 14 := nI_ltI (b := 14) h (by decide)
theorem nl_ge14 {j : Nat} (h : j < 2 ^ 31) : ((14 : Int32) ≤ nI j) ↔ 14 ≤ j := nI_leI (a := 14) (by decide) h
theorem nl_gt14 {j : Nat} (h : j < 2 ^ 31) : ((14 : Int32) < nI j) ↔ 14 < j := nI_ltI (a := 14) (by decide) h
theorem nl_eq14 {j : Nat} (h : j < 2 ^ 31) : (nI j = (14 : Int32)) ↔ j = 14 := nI_eq (b := 14) h (by decide)
theorem nl_le15 {j : Nat} (h : j < 2 ^ 31) : (nI j ≤ (15 : Int32)) ↔ j ≤ 15 := nI_leI (b := 15) h (by decide)
theorem nl_lt15 {j : Nat} (h : j < 2 ^ 31) : (nI j < (15 : Int32)) ↔ j < 15 := nI_ltI (b := 15) h (by decide)
theorem nl_ge15 {j : Nat} (h : j < 2 ^ 31) : ((15 : Int32) ≤ nI j) ↔ 15 ≤ j := nI_leI (a := 15) (by decide) h
theorem nl_gt15 {j : Nat} (h : j < 2 ^ 31) : ((15 : Int32) < nI j) ↔ 15 < j := nI_ltI (a := 15) (by decide) h
theorem nl_eq15 {j : Nat} (h : j < 2 ^ 31) : (nI j = (15 : Int32)) ↔ j = 15 := nI_eq (b := 15) h (by decide)
theorem nl_le16 {j : Nat} (h : j < 2 ^ 31) : (nI j ≤ (16 : Int32)) ↔ j ≤ 16 := nI_leI (b := 16) h (by decide)
theorem nl_lt16 {j : Nat} (h : j < 2 ^ 31) : (nI j < (16 : Int32)) ↔ j < 16 := nI_ltI (b := 16) h (by decide)
theorem nl_ge16 {j : Nat} (h : j < 2 ^ 31) : ((16 : Int32) ≤ nI j) ↔ 16 ≤ j := nI_leI (a := 16) (by decide) h
theorem nl_gt16 {j : Nat} (h : j < 2 ^ 31) : ((16 : Int32) < nI j) ↔ 16 < j := nI_ltI (a := 16) (by decide) h
theorem nl_eq16 {j : Nat} (h : j < 2 ^ 31) : (nI j = (16 : Int32)) ↔ j = 16 := nI_eq (b := 16) h (by decide)
theorem nl_le32 {j : Nat} (h : j < 2 ^ 31) : (nI j ≤ (32 : Int32)) ↔ j ≤ 32 := nI_leI (b := 32) h (by decide)
theorem nl_lt32 {j : Nat} (h : j < 2 ^ 31) : (nI j < (32 : Int32)) ↔ j < 32 := nI_ltI (b := 32) h (by decide)
theorem nl_ge32 {j : Nat} (h : j < 2 ^ 31) : ((32 : Int32) ≤ nI j) ↔ 32 ≤ j := nI_leI (a := 32) (by decide) h
theorem nl_gt32 {j : Nat} (h : j < 2 ^ 31) : ((32 : Int32) < nI j) ↔ 32 < j := nI_ltI (a := 32) (by decide) h
theorem nl_eq32 {j : Nat} (h : j < 2 ^ 31) : (nI j = (32 : Int32)) ↔ j = 32 := nI_eq (b := 32) h (by decide)
theorem nl_pre {P n : Nat} (hP : P < 2 ^ 31) (hn : n < 2 ^ 31) : nI P ≤ nI n - 1 ↔ P < n := by
  cases n with
  | zero =>
    have e : nI 0 - 1 = (-1 : Int32) := by decide
    rw [e]
    constructor
    · intro h
      have a := nI_pos' hP
      exact absurd (Int32.le_trans a h) (by decide)
    · intro h
      omega
  | succ m =>
    rw [nI_pred, nI_leI hP (by omega)]
    omega
theorem nl_m1 {j : Nat} (h : j < 2 ^ 31) : (nI j = (-1 : Int32)) ↔ False := iff_false_intro (nc_m1 h)
end
section
/-! numbers -/
theorem nn_m4 (a : Nat) : nI a * 4 = nI (a * 4) := pk_mul a 4
theorem nn_m8 (a : Nat) : nI a * 8 = nI (a * 8) := pk_mul a 8
theorem nn_m12 (a : Nat) : nI a * 12 = nI (a * 12) := pk_mul a 12
theorem nn_m32 (a : Nat) : nI a * 32 = nI (a * 32) := pk_mul a 32
theorem nn_m33 (a : Nat) : nI a * 33 = nI (a * 33) := pk_mul a 33
theorem nn_m64 (a : Nat) : (64 : Int32) * nI a = nI (64 * a) := pk_mul 64 a
theorem nn_a1 (a : Nat) : nI a + 1 = nI (a + 1) := nI_add a 1
theorem nn_a2 (a : Nat) : nI a + 2 = nI (a + 2) := nI_add a 2
theorem nn_a3 (a : Nat) : nI a + 3 = nI (a + 3) := nI_add a 3
theorem nn_a8 (a : Nat) : nI a + 8 = nI (a + 8) := nI_add a 8
theorem nn_a9 (a : Nat) : nI a + 9 = nI (a + 9) := nI_add a 9
theorem nn_a10 (a : Nat) : nI a + 10 = nI (a + 10) := nI_add a 10
theorem nn_a11 (a : Nat) : nI a + 11 = nI (a + 11) := nI_add a 11
theorem nn_in {n N : Nat} (h : n < N) (hN : N < 2 ^ 31) : vp_in (nI n) N = True := eq_true (vp_in_nI h hN)
/-- an int, against a range -/
theorem nn_rng (x : Int32) (n : Nat) (hn : n < 2 ^ 30) : (∃ j, j ≤ n ∧ x = nI j) ∨ (x < 0 ∧ ¬ 0 ≤ x ∧ ¬ nI n < x ∧ x ≤ nI n) ∨ (¬ x < 0 ∧ 0 ≤ x ∧ nI n < x ∧ ¬ x ≤ nI n) := by
  have e : (nI n).toInt = n := nI_toInt (by omega)
  have z : (0 : Int32).toInt = 0 := by decide
  by_cases h : x < 0
  · right; left
    refine ⟨h, ?_, ?_, ?_⟩ <;> simp only [Int32.lt_iff_toInt_lt, Int32.le_iff_toInt_le, e, z] at h ⊢ <;> omega
  · obtain ⟨j, hj, rfl⟩ := nI_of h
    by_cases h2 : j ≤ n
    · exact Or.inl ⟨j, h2, rfl⟩
    · right; right
      exact ⟨h, nI_pos' hj, nI_lt (by omega) hj, nI_ge (by omega) hj⟩
/-! the program grows -/
theorem nv_pgE {L : Nat → Nat} {pg : Nat → Int32} {s o A B K : Nat} (h : nv_pg L pg) (hL : ∀ j, j < 4 → L j ≤ 32) (hs : s < 4) (hl : L s < 32) (hi : nv_in o A B K) : nv_pg (fun j => if j = s then L s + 1 else L j) (upd (upd (upd (upd pg ((s * 32 + L s) * 4) (nI o)) ((s * 32 + L s) * 4 + 1) (nI A)) ((s * 32 + L s) * 4 + 2) (nI B)) ((s * 32 + L s) * 4 + 3) (nI K)) := by
  intro b hb p hp
  by_cases e : b = s ∧ p = L s
  · obtain ⟨rfl, rfl⟩ := e
    refine ⟨o, A, B, K, ?_, ?_, ?_, ?_, hi⟩
    · rw [pk_un (by omega), pk_un (by omega), pk_un (by omega), pk_us]
    · rw [pk_un (by omega), pk_un (by omega), pk_us]
    · rw [pk_un (by omega), pk_us]
    · rw [pk_us]
  · have hp' : p < L b := by
      by_cases d : b = s
      · subst d
        have hp2 : p < L b + 1 := by simpa using hp
        have : p ≠ L b := fun z => e ⟨rfl, z⟩
        omega
      · simpa [d] using hp
    have hb2 := hL b hb
    have hd : b * 32 + p ≠ s * 32 + L s := by
      intro z
      apply e
      omega
    obtain ⟨o', A', B', K', e1, e2, e3, e4, hi'⟩ := h b hb p hp'
    refine ⟨o', A', B', K', ?_, ?_, ?_, ?_, hi'⟩
    · rw [pk_un (by omega), pk_un (by omega), pk_un (by omega), pk_un (by omega), e1]
    · rw [pk_un (by omega), pk_un (by omega), pk_un (by omega), pk_un (by omega), e2]
    · rw [pk_un (by omega), pk_un (by omega), pk_un (by omega), pk_un (by omega), e3]
    · rw [pk_un (by omega), pk_un (by omega), pk_un (by omega), pk_un (by omega), e4]
theorem nv_lnE {L : Nat → Nat} {C : Nat} {ln : Nat → Int32} {s : Nat} (h : nv_ln L C ln) (hl : L s < C) : nv_ln (fun j => if j = s then L s + 1 else L j) C (upd ln s (nI (L s + 1))) := by
  intro j hj
  by_cases e : j = s
  · subst e
    refine ⟨?_, ?_⟩
    · show upd ln j (nI (L j + 1)) j = nI (if j = j then L j + 1 else L j)
      rw [pk_us, if_pos rfl]
    · show (if j = j then L j + 1 else L j) ≤ C
      rw [if_pos rfl]
      omega
  · have g : (if j = s then L s + 1 else L j) = L j := if_neg e
    show upd ln s (nI (L s + 1)) j = nI (if j = s then L s + 1 else L j) ∧ (if j = s then L s + 1 else L j) ≤ C
    rw [pk_un e, g]
    exact h j hj
/-! frames and objects -/
theorem nv_frL {O k j a : Nat} {fr : Nat → Int32} {v : Int32} (h : nv_fr O k fr) (ha : a < 8) (hv : nv_vl O v) : nv_fr O k (upd fr (j * 12 + a) v) := by
  obtain ⟨h1, h2, h3, h4⟩ := h
  refine ⟨fun s hs => ?_, ?_, ?_, ?_⟩
  · unfold upd
    split
    · exact hv
    · exact h1 s hs
  · rw [pk_un (by omega)]; exact h2
  · rw [pk_un (by omega)]; exact h3
  · rw [pk_un (by omega), pk_un (by omega)]; exact h4
theorem nv_frP {O k j p : Nat} {fr : Nat → Int32} (h : nv_fr O k fr) (hp : p < 33) : nv_fr O k (upd fr (j * 12 + 9) (nI p)) := by
  obtain ⟨h1, h2, h3, h4⟩ := h
  refine ⟨fun s hs => ?_, ?_, ?_, ?_⟩
  · rw [pk_un (by omega)]; exact h1 s hs
  · rw [pk_un (by omega)]; exact h2
  · unfold upd
    split
    · exact ⟨p, hp, rfl⟩
    · exact h3
  · rw [pk_un (by omega), pk_un (by omega)]; exact h4
theorem nv_frO {O O' k : Nat} {fr : Nat → Int32} (h : nv_fr O k fr) (hO : O ≤ O') : nv_fr O' k fr := by
  obtain ⟨h1, h2, h3, h4⟩ := h
  refine ⟨fun s hs => nv_vlm hO (h1 s hs), h2, h3, fun hk => ⟨(h4 hk).1, ?_⟩⟩
  obtain ⟨q, hq, e⟩ := (h4 hk).2
  exact ⟨q, by omega, e⟩
def nw_push (fr : Nat → Int32) (F : Nat) (bl ar de ow : Int32) : Nat → Int32 := upd (upd (upd (upd (upd (upd (na_fi fr (F * 12) 8 (-1)) (F * 12) ow) (F * 12 + 1) ar) (F * 12 + 8) bl) (F * 12 + 9) 0) (F * 12 + 10) de) (F * 12 + 11) ow
theorem nw_old {fr : Nat → Int32} {F j : Nat} {bl ar de ow : Int32} (h : j < F * 12) : nw_push fr F bl ar de ow j = fr j := by
  unfold nw_push
  rw [pk_un (by omega), pk_un (by omega), pk_un (by omega), pk_un (by omega), pk_un (by omega), pk_un (by omega), na_fiO (by omega)]
theorem nw_frK {O k F : Nat} {fr : Nat → Int32} {bl ar de ow : Int32} (h : nv_fr O k fr) (hk : k < F) : nv_fr O k (nw_push fr F bl ar de ow) := by
  obtain ⟨h1, h2, h3, h4⟩ := h
  refine ⟨fun s hs => ?_, ?_, ?_, ?_⟩
  · rw [nw_old (by omega)]; exact h1 s hs
  · rw [nw_old (by omega)]; exact h2
  · rw [nw_old (by omega)]; exact h3
  · rw [nw_old (by omega), nw_old (by omega)]; exact h4
theorem nw_frN {O F b : Nat} {fr : Nat → Int32} {ar de ow : Int32} (hb : b < 4) (ha : nv_vl O ar) (ho : nv_vl O ow) (hd : 0 < F → (∃ d, d < 8 ∧ de = nI d) ∧ ∃ q, q < O ∧ ow = nI q) : nv_fr O F (nw_push fr F (nI b) ar de ow) := by
  unfold nw_push
  refine ⟨fun s hs => ?_, ⟨b, hb, ?_⟩, ⟨0, by omega, ?_⟩, ?_⟩
  · rw [pk_un (by omega), pk_un (by omega), pk_un (by omega), pk_un (by omega)]
    unfold upd
    split
    · exact ha
    · split
      · exact ho
      · rw [na_fiI (by omega)]
        exact Or.inl rfl
  · rw [pk_un (by omega), pk_un (by omega), pk_un (by omega), pk_us]
  · rw [pk_un (by omega), pk_un (by omega), pk_us]
    rfl
  · rw [pk_un (by omega), pk_us, pk_us]
    exact hd
theorem nv_Mf {O F U H D : Nat} {hp fr fr' : Nat → Int32} (h : nv_M O F U H D hp fr) (hf : ∀ k, k < F → nv_fr O k fr → nv_fr O k fr') : nv_M O F U H D hp fr' := ⟨h.1, h.2.1, h.2.2.1, h.2.2.2.1, fun k hk => hf k hk (h.2.2.2.2 k hk)⟩
theorem nv_Mh {O F U H D o f : Nat} {hp fr : Nat → Int32} {v : Int32} (h : nv_M O F U H D hp fr) (hv : nv_vl O v) : nv_M O F U H D (upd hp (o * 4 + f) v) fr := by
  refine ⟨h.1, h.2.1, h.2.2.1, fun j hj => ?_, h.2.2.2.2⟩
  unfold upd
  split
  · exact hv
  · exact h.2.2.2.1 j hj
theorem nv_Mu {O F U U' H D : Nat} {hp fr : Nat → Int32} (h : nv_M O F U H D hp fr) (hU : U' ≤ 16) : nv_M O F U' H D hp fr := ⟨h.1, h.2.1, hU, h.2.2.2.1, h.2.2.2.2⟩
theorem nv_Mpop {O F U H D : Nat} {hp fr : Nat → Int32} (h : nv_M O (F + 1) U H D hp fr) : nv_M O F U H D hp fr := ⟨h.1, by have := h.2.1; omega, h.2.2.1, h.2.2.2.1, fun k hk => h.2.2.2.2 k (by omega)⟩
theorem nv_M0 {H D : Nat} {hp fr : Nat → Int32} : nv_M 0 0 0 H D hp fr := ⟨by omega, by omega, by omega, fun j hj => absurd hj (by omega), fun k hk => absurd hk (by omega)⟩
theorem nv_Mnew {O F U H D b d : Nat} {hp fr : Nat → Int32} {ar : Int32} (h : nv_M O F U H D hp fr) (hO : O < H) (hF : F < D) (hb : b < 4) (hd : d < 8) (ha : nv_vl O ar) : nv_M (O + 1) (F + 1) U H D (na_fi hp (O * 4) 4 (-1)) (nw_push fr F (nI b) ar (nI d) (nI O)) := by
  obtain ⟨_, _, h3, h4, h5⟩ := h
  refine ⟨by omega, by omega, h3, fun j hj => ?_, fun k hk => ?_⟩
  · unfold na_fi
    split
    · exact Or.inl rfl
    · exact nv_vlm (by omega) (h4 j (by omega))
  · by_cases e : k = F
    · subst e
      exact nw_frN hb (nv_vlm (by omega) ha) (Or.inr ⟨O, by omega, rfl⟩) (fun _ => ⟨⟨d, hd, rfl⟩, O, by omega, rfl⟩)
    · exact nw_frK (nv_frO (h5 k (by omega)) (by omega)) (by omega)
theorem nv_Mstart {H D : Nat} (hD : 1 ≤ D) {hp fr : Nat → Int32} : nv_M 0 1 0 H D hp (nw_push fr 0 0 (-1) (-1) (-1)) := by
  refine ⟨by omega, hD, by omega, fun j hj => absurd hj (by omega), fun k hk => ?_⟩
  obtain rfl : k = 0 := by omega
  exact nw_frN (b := 0) (by omega) (Or.inl rfl) (Or.inl rfl) (fun z => absurd z (by omega))
theorem nw_main (fr : Nat → Int32) : nw_push fr 0 0 (-1) (-1) (-1) = upd (upd (upd (upd (na_fi fr 0 8 (-1)) 8 0) 9 0) 10 (-1)) 11 (-1) := by
  have e : upd (upd (na_fi fr (0 * 12) 8 (-1)) (0 * 12) (-1)) (0 * 12 + 1) (-1) = na_fi fr 0 8 (-1) := by
    funext j
    unfold upd
    split
    · exact (na_fiI (by omega)).symm
    · split
      · exact (na_fiI (by omega)).symm
      · rfl
  unfold nw_push
  rw [e]
end
section
/-! a block is entered -/
theorem nr_frame {so rc sn si sf so' rc' sn' si' sf' : Nat → Int32} {q : Nat} (h : nr_pt so rc sn si sf q) (hr : rc' q = rc q) (hs : ∀ l, l < 8 → so' (q * 8 + l) = so (q * 8 + l) ∧ sn' (q * 8 + l) = sn (q * 8 + l) ∧ si' (q * 8 + l) = si (q * 8 + l) ∧ sf' (q * 8 + l) = sf (q * 8 + l)) : nr_pt so' rc' sn' si' sf' q := by
  rcases h with ⟨h1, h2⟩ | ⟨h1, h2⟩
  · refine Or.inl ⟨hr.trans h1, fun l hl => ?_⟩
    rw [(hs l hl).1]
    exact h2 l hl
  · refine Or.inr ⟨hr.trans h1, fun l hl => ?_⟩
    obtain ⟨e1, e2, e3, e4⟩ := hs l hl
    rw [e1, e2, e3, e4]
    exact h2 l hl
theorem nr_ent {b : Nat} {L : Nat → Nat} {so rc sn si sf so' rc' sn' si' sf' : Nat → Int32} (hS : nr_S b L so rc sn si sf) (hL : ∀ j, j < 4 → L j ≤ 32) (hb : b < 4) (hz : ∀ j, b * 33 < j → j < 132 → rc j = 0) (hr : rc' = upd rc (b * 33) 1) (hA : ∀ j, j < b * 264 → so' j = so j ∧ sn' j = sn j ∧ si' j = si j ∧ sf' j = sf j) (hC : ∀ l, l < 8 → ∃ c, nc_cr (so' (b * 264 + l)) (sn' (b * 264 + l)) (si' (b * 264 + l)) (sf' (b * 264 + l)) c) (hD : ∀ j, b * 264 + 8 ≤ j → j < b * 264 + (L b + 1) * 8 → so' j = -1) : nr_S (b + 1) L so' rc' sn' si' sf' := by
  subst hr
  intro b' hb' p hp
  by_cases e : b' = b
  · subst e
    have hLb := hL b' hb
    by_cases d : p = 0
    · subst d
      refine Or.inr ⟨pk_us, fun l hl => ?_⟩
      rw [show (b' * 33 + 0) * 8 + l = b' * 264 + l from by omega]
      exact hC l hl
    · refine Or.inl ⟨?_, fun l hl => ?_⟩
      · rw [pk_un (by omega)]
        exact hz _ (by omega) (by omega)
      · exact hD _ (by omega) (by omega)
  · have hLb := hL b' (by omega)
    refine nr_frame (hS b' (by omega) p hp) (pk_un (by omega)) fun l hl => hA _ (by omega)
theorem nr_c1 : nc_cr 1 1 0 0 1 := nc_crN (n := 1) (i := 0) (by omega) (by omega)
theorem nr_c2 : nc_cr 2 0 1 0 2 := nc_crN (n := 0) (i := 1) (by omega) (by omega)
theorem nr_ent0 {L : Nat → Nat} {so rc sn si sf : Nat → Int32} (hL : ∀ j, j < 4 → L j ≤ 32) (hz : ∀ j, 0 < j → j < 132 → rc j = 0) : nr_S 1 L (na_fi (na_fi so 0 ((L 0 + 1) * 8) (-1)) 0 8 1) (upd rc 0 1) (na_fi sn 0 8 1) (na_fi si 0 8 0) (na_fi sf 0 8 0) := by
  refine nr_ent (b := 0) (so := so) (rc := rc) (sn := sn) (si := si) (sf := sf) (fun b hb => absurd hb (by omega)) hL (by omega) (fun j h1 h2 => hz j (by omega) h2) rfl (fun j hj => absurd hj (by omega)) (fun l hl => ?_) (fun j h1 h2 => ?_)
  · rw [na_fiI (by omega), na_fiI (by omega), na_fiI (by omega), na_fiI (by omega)]
    exact ⟨1, nr_c1⟩
  · rw [na_fiO (by omega), na_fiI (by omega)]
theorem nr_entK {b : Nat} {L : Nat → Nat} {so rc sn si sf : Nat → Int32} {n i : Int32} (hS : nr_S b L so rc sn si sf) (hL : ∀ j, j < 4 → L j ≤ 32) (hb : b < 4) (hz : ∀ j, b * 33 < j → j < 132 → rc j = 0) (hn : n = 0 ∨ n = 1) (hi : i = 0 ∨ i = 1 ∨ i = 2) : nr_S (b + 1) L (upd (upd (na_fi (na_fi so (b * 264) ((L b + 1) * 8) (-1)) (b * 264) 8 1) (b * 264) 2) (b * 264 + 1) (n + 2 * i)) (upd rc (b * 33) 1) (upd (upd (na_fi sn (b * 264) 8 1) (b * 264) 0) (b * 264 + 1) n) (upd (upd (na_fi si (b * 264) 8 0) (b * 264) 1) (b * 264 + 1) i) (na_fi sf (b * 264) 8 0) := by
  refine nr_ent (b := b) (so := so) (rc := rc) (sn := sn) (si := si) (sf := sf) hS hL hb hz rfl (fun j hj => ⟨?_, ?_, ?_, ?_⟩) (fun l hl => ?_) (fun j h1 h2 => ?_)
  · rw [pk_un (by omega), pk_un (by omega), na_fiO (by omega), na_fiO (by omega)]
  · rw [pk_un (by omega), pk_un (by omega), na_fiO (by omega)]
  · rw [pk_un (by omega), pk_un (by omega), na_fiO (by omega)]
  · rw [na_fiO (by omega)]
  · rw [na_fiI (s := sf) (by omega)]
    by_cases e1 : l = 1
    · subst e1
      rw [pk_us, pk_us, pk_us]
      exact ne_mkc hn hi
    · by_cases e0 : l = 0
      · subst e0
        rw [Nat.add_zero (b * 264), pk_un (by omega), pk_us, pk_un (by omega), pk_us, pk_un (by omega), pk_us]
        exact ⟨2, nr_c2⟩
      · rw [pk_un (by omega), pk_un (by omega), pk_un (by omega), pk_un (by omega), pk_un (by omega), pk_un (by omega), na_fiI (by omega), na_fiI (by omega), na_fiI (by omega)]
        exact ⟨1, nr_c1⟩
  · rw [pk_un (by omega), pk_un (by omega), na_fiO (by omega), na_fiI (by omega)]
end
section
/-! the component's checker, a method at a time -/
theorem nn_inA {a b N : Nat} (h : a + b < N) (hN : N < 2 ^ 31) : vp_in (nI a + nI b) N := by
  rw [nI_add]
  exact vp_in_nI h hN
theorem nn_clA {a b : Nat} (h : a + b < 2 ^ 31) : (nI a + nI b).toNatClampNeg = a + b := by
  rw [nI_add]
  exact nI_clamp h
theorem nn_nge {i : Nat} (n : Nat) (h : i < n) (hn : n < 2 ^ 31) : ¬ nI n ≤ nI i := nI_ge h hn
theorem nn_b0 : narrow .boolean (.int (0 : Int32)) = .int 0 := rfl
theorem nn_b1 : narrow .boolean (.int (1 : Int32)) = .int 1 := rfl
theorem nn_b {r : Int32} (h : r = 0 ∨ r = 1) : narrow .boolean (.int r) = .int r := by
  rcases h with rfl | rfl
  · rfl
  · rfl
theorem nn_nb1 : vp_nar .boolean 1 = 1 := rfl
theorem nn_nb0 : vp_nar .boolean 0 = 0 := rfl
theorem nn_st (b p : Nat) : (nI b * 33 + nI p) * 8 = nI ((b * 33 + p) * 8) := by
  rw [nn_m33, nI_add, nn_m8]
theorem nn_ct (b p : Nat) : (nI b * 32 + nI p) * 4 = nI ((b * 32 + p) * 4) := by
  rw [nn_m32, nI_add, nn_m4]
section
variable {cc hc md sel cs ec ep ms oc fc uc : Int32} {fk pn pi ln pg so ed he fr ou : Nat → Int32}
theorem xs_joined {post : Int32 → Prop} {a b : Int32} (h : post (nc_xj a b)) : wpX_joined post a b := by
  unfold nc_xj at h
  by_cases e : a = -1
  · rw [if_pos e] at h
    exact br_t e h
  · rw [if_neg e] at h
    refine br_f e ?_
    refine nm_e (nm_e (nm_e ?_))
    by_cases e2 : a &&& 6 = b &&& 6
    · rw [if_pos e2] at h
      exact br_t e2 h
    · rw [if_neg e2] at h
      exact br_f e2 h
theorem xw_load {b p : Nat} (hb : b < 4) (hp : p < 33) {post : SX → Prop} (h : post (cc, hc, md, sel, cs, ec, ep, ms, oc, fc, uc, fk, pn, pi, ln, pg, so, (na_ld so ed ((b * 33 + p) * 8) 8), he, fr, ou)) : wpX_loadEdge post (cc, hc, md, sel, cs, ec, ep, ms, oc, fc, uc, fk, pn, pi, ln, pg, so, ed, he, fr, ou) (nI b) (nI p) := by
  have K : ∀ d i, i + d = 8 → wX_loadEdge_9 post (nI ((b * 33 + p) * 8)) cc hc md sel cs ec ep ms oc fc uc (d + 1) (nI i) fk pn pi ln pg so (na_ld so ed ((b * 33 + p) * 8) i) he fr ou := by
    intro d
    induction d with
    | zero =>
      intro i hi
      obtain rfl : i = 8 := by omega
      rw [wX_loadEdge_9]
      exact br_t (by decide) h
    | succ d ih =>
      intro i hi
      rw [wX_loadEdge_9]
      refine br_f (nn_nge 8 (by omega) (by decide)) ⟨nn_inA (by omega) (by decide), vp_in_nI (by omega) (by decide), nm_r ?_ (nm_r (nI_1 i) (ih (i + 1) (by omega)))⟩
      rw [nn_clA (by omega), nI_clamp (by omega), na_ldS]
  unfold wpX_loadEdge wpX_stateAt
  rw [nn_st]
  refine ⟨9, ?_⟩
  have q := K 8 0 (by omega)
  rw [na_ld0] at q
  exact q
theorem xw_forget {f : Nat} {post : SX → Prop} (h : post (cc, hc, md, sel, cs, ec, ep, ms, oc, fc, uc, fk, pn, pi, ln, pg, so, (na_mk ed (((8 : Int32) <<< (nI f &&& 31)) ^^^ (-1)) 8), he, fr, ou)) : wpX_forgetField post (cc, hc, md, sel, cs, ec, ep, ms, oc, fc, uc, fk, pn, pi, ln, pg, so, ed, he, fr, ou) (nI f) := by
  have K : ∀ d i, i + d = 8 → wX_forgetField_2 post (nI f) cc hc md sel cs ec ep ms oc fc uc (d + 1) (nI i) fk pn pi ln pg so (na_mk ed (((8 : Int32) <<< (nI f &&& 31)) ^^^ (-1)) i) he fr ou := by
    intro d
    induction d with
    | zero =>
      intro i hi
      obtain rfl : i = 8 := by omega
      rw [wX_forgetField_2]
      exact br_t (by decide) h
    | succ d ih =>
      intro i hi
      rw [wX_forgetField_2]
      refine br_f (nn_nge 8 (by omega) (by decide)) ⟨vp_in_nI (by omega) (by decide), vp_in_nI (by omega) (by decide), nm_r ?_ (nm_r (nI_1 i) (ih (i + 1) (by omega)))⟩
      rw [nI_clamp (by omega), na_mkS, na_mkO (Nat.le_refl i)]
  unfold wpX_forgetField
  refine ⟨9, ?_⟩
  have q := K 8 0 (by omega)
  rw [na_mk0] at q
  exact q
theorem xw_cnew {a s : Nat} (ha : a < 8) (hs : s < 8) {post : SX → Prop} (h : post (cc, hc, md, sel, cs, ec, ep, ms, oc, fc, uc, fk, pn, pi, ln, pg, so, (upd (ne_xf fk ed 4) a (0 + 2 * ((ed s &&& 6) / 2))), he, fr, ou)) : wpX_changeByNew post (cc, hc, md, sel, cs, ec, ep, ms, oc, fc, uc, fk, pn, pi, ln, pg, so, ed, he, fr, ou) (nI a) (nI s) := by
  have K : ∀ d i, i + d = 4 → wX_changeByNew_13 post (nI a) ((ed s &&& 6) / 2) (d + 1) (nI i) cc hc md sel cs ec ep ms oc fc uc fk pn pi ln pg so (ne_xf fk ed i) he fr ou := by
    intro d
    induction d with
    | zero =>
      intro i hi
      obtain rfl : i = 4 := by omega
      rw [wX_changeByNew_13]
      refine br_t (by decide) ⟨vp_in_nI (by omega) (by decide), nm_r ?_ h⟩
      rw [nI_clamp (by omega)]
    | succ d ih =>
      intro i hi
      rw [wX_changeByNew_13]
      have q := ih (i + 1) (by omega)
      refine br_f (nn_nge 4 (by omega) (by decide)) ⟨vp_in_nI (by omega) (by decide), br_c (fun e => ?_) (fun e => ?_)⟩
      · rw [nI_clamp (by omega)] at e
        rw [ne_xf, if_pos e] at q
        refine xw_forget ?_
        exact nm_r (nI_1 i) q
      · rw [nI_clamp (by omega)] at e
        rw [ne_xf, if_neg e] at q
        exact nm_r (nI_1 i) q
  unfold wpX_changeByNew wpX_initOf
  refine ⟨vp_in_nI hs (by decide), by decide, 5, ?_⟩
  rw [nI_clamp (by omega)]
  exact K 4 0 (by omega)
theorem xw_cget {a s f : Nat} (ha : a < 8) (hs : s < 8) (hf : f < 4) {post : SX → Prop} {n i : Int32} (hn : n = if fk f = 0 then 0 else if (ed s &&& ((8 : Int32) <<< (nI f &&& 31))) = 0 then 1 else 0) (hi : i = if (ed s &&& 6) / 2 = 0 then 0 else 2) (h : post (cc, hc, md, sel, cs, ec, ep, ms, oc, fc, uc, fk, pn, pi, ln, pg, so, (upd ed a (n + 2 * i)), he, fr, ou)) : wpX_changeByGet post (cc, hc, md, sel, cs, ec, ep, ms, oc, fc, uc, fk, pn, pi, ln, pg, so, ed, he, fr, ou) (nI a) (nI s) (nI f) := by
  have K46 : ∀ z, z = i → wX_changeByGet_46 post (nI a) n z cc hc md sel cs ec ep ms oc fc uc fk pn pi ln pg so ed he fr ou := by
    rintro z rfl
    unfold wX_changeByGet_46
    refine ⟨vp_in_nI ha (by decide), nm_r ?_ h⟩
    rw [nI_clamp (by omega)]
  have K27 : ∀ z, z = n → wX_changeByGet_27 post (nI a) (nI s) z cc hc md sel cs ec ep ms oc fc uc fk pn pi ln pg so ed he fr ou := by
    rintro z rfl
    unfold wX_changeByGet_27 wpX_initOf
    refine ⟨vp_in_nI hs (by decide), by decide, ?_⟩
    rw [nI_clamp (by omega)]
    refine br_c (fun e => K46 0 ?_) (fun e => K46 2 ?_)
    · rw [hi, if_pos e]
    · rw [hi, if_neg e]
  unfold wpX_changeByGet wpX_knows
  refine ⟨vp_in_nI hf (by decide), ?_⟩
  rw [nI_clamp (by omega), nI_clamp (by omega)]
  refine br_c (fun e => ?_) (fun e => ⟨vp_in_nI hs (by decide), br_c (fun e2 => br_t rfl ?_) (fun e2 => br_f (by decide) ?_)⟩)
  · exact K27 0 (by rw [hn, if_pos e])
  · exact K27 1 (by rw [hn, if_neg e, if_pos e2])
  · exact K27 0 (by rw [hn, if_neg e, if_neg e2])
theorem xw_cput {x f s : Nat} (hx : x < 8) (hs : s < 8) {post : SX → Prop} (h1 : ed s &&& 1 = 0 → post (cc, hc, md, sel, cs, ec, ep, ms, oc, fc, uc, fk, pn, pi, ln, pg, so, (upd ed x (ed x ||| ((8 : Int32) <<< (nI f &&& 31)))), he, fr, ou)) (h2 : ¬ ed s &&& 1 = 0 → post (cc, hc, md, sel, cs, ec, ep, ms, oc, fc, uc, fk, pn, pi, ln, pg, so, (na_mk ed (((8 : Int32) <<< (nI f &&& 31)) ^^^ (-1)) 8), he, fr, ou)) : wpX_changeByPut post (cc, hc, md, sel, cs, ec, ep, ms, oc, fc, uc, fk, pn, pi, ln, pg, so, ed, he, fr, ou) (nI x) (nI f) (nI s) := by
  unfold wpX_changeByPut wpX_nullnessOf
  refine ⟨vp_in_nI hs (by decide), ?_⟩
  rw [nI_clamp (n := s) (by omega), nI_clamp (n := x) (by omega)]
  refine br_c (fun e => ⟨vp_in_nI hx (by decide), vp_in_nI hx (by decide), nm_e (h1 e)⟩) (fun e => xw_forget (h2 e))
theorem xw_arrive {b T t l : Nat} (hb : b < 4) (hl : ln b = nI l) (hl2 : l ≤ 32) (hT : T < 2 ^ 30) (ht : t = if l ≤ T then l else T) {post : Int32 → SX → Prop} (h : post (na_rs so ed ((b * 33 + t) * 8) 8) (cc, hc, md, sel, cs, ec, ep, ms, oc, fc, uc, fk, pn, pi, ln, pg, (na_av nc_xj so ed ((b * 33 + t) * 8) 8), ed, he, fr, ou)) : wpX_arrive post (cc, hc, md, sel, cs, ec, ep, ms, oc, fc, uc, fk, pn, pi, ln, pg, so, ed, he, fr, ou) (nI b) (nI T) := by
  have ht2 : t ≤ 32 := by
    subst ht
    split <;> omega
  have K : ∀ d i, i + d = 8 → wX_arrive_34 post (nI ((b * 33 + t) * 8)) cc hc md sel cs ec ep ms oc fc uc (d + 1) (na_rs so ed ((b * 33 + t) * 8) i) (nI i) fk pn pi ln pg (na_av nc_xj so ed ((b * 33 + t) * 8) i) ed he fr ou := by
    intro d
    induction d with
    | zero =>
      intro i hi
      obtain rfl : i = 8 := by omega
      rw [wX_arrive_34]
      exact br_t (by decide) ⟨nn_b (na_rs01 _ _ _ _), h⟩
    | succ d ih =>
      intro i hi
      rw [wX_arrive_34]
      have q := ih (i + 1) (by omega)
      refine br_f (nn_nge 8 (by omega) (by decide)) ⟨nn_inA (by omega) (by decide), nm_r (e' := so ((b * 33 + t) * 8 + i)) ?_ ⟨vp_in_nI (by omega) (by decide), ?_⟩⟩
      · rw [nn_clA (by omega), na_avO (by omega)]
      · refine xs_joined ?_
        rw [nI_clamp (by omega)]
        rw [na_rs] at q
        refine br_c (fun e => ?_) (fun e => ⟨nn_inA (by omega) (by decide), nm_r (e' := na_av nc_xj so ed ((b * 33 + t) * 8) (i + 1)) ?_ (nm_r (nI_1 i) ?_)⟩)
        · rw [if_pos e, na_avE e] at q
          exact nm_r (nI_1 i) q
        · rw [nn_clA (by omega), na_avS]
        · rw [if_neg e] at q
          exact q
  have A : wX_arrive_20 post (nI b) (nI t) cc hc md sel cs ec ep ms oc fc uc fk pn pi ln pg so ed he fr ou := by
    unfold wX_arrive_20 wpX_stateAt
    rw [nn_st]
    refine ⟨9, ?_⟩
    have q := K 8 0 (by omega)
    rw [na_av0] at q
    exact q
  unfold wpX_arrive
  refine ⟨vp_in_nI hb (by decide), ?_⟩
  rw [nI_clamp (by omega), hl]
  refine pk_le l T (fun e => ⟨vp_in_nI hb (by decide), ?_⟩) (fun e => ?_)
  · rw [if_pos e] at ht
    subst ht
    exact A
  · rw [if_neg (by omega)] at ht
    subst ht
    exact A
end
end
section
/-! the reference's checker, a method at a time -/
section
variable {cc hc md sel yec yep cs ms oc uc fc ych : Int32} {fk pn pi ln pg rc sn si sf tn ti tf he ou fr : Nat → Int32}
theorem yw_mask {post : Int32 → Prop} (h : post (ne_ym fk 4)) : wpY_nonnullMask post (cc, hc, md, sel, yec, yep, cs, ms, oc, uc, fc, ych, fk, pn, pi, ln, pg, rc, sn, si, sf, tn, ti, tf, he, ou, fr) := by
  have K : ∀ d i, i + d = 4 → wY_nonnullMask_4 post cc hc md sel yec yep cs ms oc uc fc ych fk pn pi ln pg rc sn si sf tn ti tf he ou fr (d + 1) (ne_ym fk i) (nI i) := by
    intro d
    induction d with
    | zero =>
      intro i hi
      obtain rfl : i = 4 := by omega
      rw [wY_nonnullMask_4]
      exact br_t (by decide) h
    | succ d ih =>
      intro i hi
      rw [wY_nonnullMask_4]
      have q := ih (i + 1) (by omega)
      refine br_f (nn_nge 4 (by omega) (by decide)) ⟨vp_in_nI (by omega) (by decide), br_c (fun e => ?_) (fun e => ?_)⟩
      · rw [nI_clamp (by omega)] at e
        rw [ne_ym, if_pos e] at q
        exact nm_e (nm_r (nI_1 i) q)
      · rw [nI_clamp (by omega)] at e
        rw [ne_ym, if_neg e] at q
        exact nm_r (nI_1 i) q
  unfold wpY_nonnullMask
  exact ⟨5, K 4 0 (by omega)⟩
theorem yw_load {b p : Nat} (hb : b < 4) (hp : p < 33) {post : SY → Prop} (h : post (cc, hc, md, sel, yec, yep, cs, ms, oc, uc, fc, ych, fk, pn, pi, ln, pg, rc, sn, si, sf, (na_ld sn tn ((b * 33 + p) * 8) 8), (na_ld si ti ((b * 33 + p) * 8) 8), (na_ld sf tf ((b * 33 + p) * 8) 8), he, ou, fr)) : wpY_load post (cc, hc, md, sel, yec, yep, cs, ms, oc, uc, fc, ych, fk, pn, pi, ln, pg, rc, sn, si, sf, tn, ti, tf, he, ou, fr) (nI b) (nI p) := by
  have K : ∀ d i, i + d = 8 → wY_load_2 post (nI b) (nI p) cc hc md sel yec yep cs ms oc uc fc ych (d + 1) (nI i) fk pn pi ln pg rc sn si sf (na_ld sn tn ((b * 33 + p) * 8) i) (na_ld si ti ((b * 33 + p) * 8) i) (na_ld sf tf ((b * 33 + p) * 8) i) he ou fr := by
    intro d
    induction d with
    | zero =>
      intro i hi
      obtain rfl : i = 8 := by omega
      rw [wY_load_2]
      exact br_t (by decide) h
    | succ d ih =>
      intro i hi
      rw [wY_load_2]
      have q := ih (i + 1) (by omega)
      have c1 : (nI ((b * 33 + p) * 8 + i)).toNatClampNeg = (b * 33 + p) * 8 + i := nI_clamp (by omega)
      have c2 : (nI i).toNatClampNeg = i := nI_clamp (by omega)
      refine br_f (nn_nge 8 (by omega) (by decide)) (nm_r (e' := nI ((b * 33 + p) * 8 + i)) (by rw [nn_st, nI_add]) ?_)
      rw [c1, c2]
      refine ⟨vp_in_nI (by omega) (by decide), vp_in_nI (by omega) (by decide), nm_r (na_ldS sn tn ((b * 33 + p) * 8) i).symm ⟨vp_in_nI (by omega) (by decide), vp_in_nI (by omega) (by decide), nm_r (na_ldS si ti ((b * 33 + p) * 8) i).symm ⟨vp_in_nI (by omega) (by decide), vp_in_nI (by omega) (by decide), nm_r (na_ldS sf tf ((b * 33 + p) * 8) i).symm (nm_r (nI_1 i) q)⟩⟩⟩
  unfold wpY_load
  refine ⟨9, ?_⟩
  have q := K 8 0 (by omega)
  rw [na_ld0, na_ld0, na_ld0] at q
  exact q
theorem yw_set {a : Nat} (ha : a < 8) {n i f : Int32} {post : SY → Prop} (h : post (cc, hc, md, sel, yec, yep, cs, ms, oc, uc, fc, ych, fk, pn, pi, ln, pg, rc, sn, si, sf, (upd tn a n), (upd ti a i), (upd tf a f), he, ou, fr)) : wpY_set post (cc, hc, md, sel, yec, yep, cs, ms, oc, uc, fc, ych, fk, pn, pi, ln, pg, rc, sn, si, sf, tn, ti, tf, he, ou, fr) (nI a) n i f := by
  unfold wpY_set
  rw [nI_clamp (by omega)]
  exact ⟨vp_in_nI ha (by decide), nm_e ⟨vp_in_nI ha (by decide), nm_e ⟨vp_in_nI ha (by decide), nm_e h⟩⟩⟩
theorem yw_join {b t : Nat} (hb : b < 4) (ht : t ≤ 32) {z : Int32} (hz : z = if rc (b * 33 + t) = 0 then 1 else 0) {post : SY → Prop} (h : post (cc, hc, md, sel, yec, yep, cs, ms, oc, uc, fc, (na_ch z (if z = 0 then ych else 1) sn si sf tn ti tf ((b * 33 + t) * 8) 8), fk, pn, pi, ln, pg, (upd rc (b * 33 + t) 1), (na_av (nc_yn z) sn tn ((b * 33 + t) * 8) 8), (na_av (nc_yi z) si ti ((b * 33 + t) * 8) 8), (na_av (nc_yf z) sf tf ((b * 33 + t) * 8) 8), tn, ti, tf, he, ou, fr)) : wpY_join post (cc, hc, md, sel, yec, yep, cs, ms, oc, uc, fc, ych, fk, pn, pi, ln, pg, rc, sn, si, sf, tn, ti, tf, he, ou, fr) (nI b) (nI t) := by
  have K : ∀ d i, i + d = 8 → wY_join_43 post (nI (b * 33 + t)) z cc hc md sel yec yep cs ms oc uc fc (d + 1) (nI i) (na_ch z (if z = 0 then ych else 1) sn si sf tn ti tf ((b * 33 + t) * 8) i) fk pn pi ln pg (upd rc (b * 33 + t) 1) (na_av (nc_yn z) sn tn ((b * 33 + t) * 8) i) (na_av (nc_yi z) si ti ((b * 33 + t) * 8) i) (na_av (nc_yf z) sf tf ((b * 33 + t) * 8) i) tn ti tf he ou fr := by
    intro d
    induction d with
    | zero =>
      intro i hi
      obtain rfl : i = 8 := by omega
      rw [wY_join_43]
      exact br_t (by decide) h
    | succ d ih =>
      intro i hi
      have q := ih (i + 1) (by omega)
      have c1 : (nI ((b * 33 + t) * 8 + i)).toNatClampNeg = (b * 33 + t) * 8 + i := nI_clamp (by omega)
      have c2 : (nI i).toNatClampNeg = i := nI_clamp (by omega)
      have v1 : vp_in (nI ((b * 33 + t) * 8 + i)) 1056 := vp_in_nI (by omega) (by decide)
      have v2 : vp_in (nI i) 8 := vp_in_nI (by omega) (by decide)
      have g1 : na_av (nc_yn z) sn tn ((b * 33 + t) * 8) i ((b * 33 + t) * 8 + i) = sn ((b * 33 + t) * 8 + i) := na_avO (by omega)
      have g2 : na_av (nc_yi z) si ti ((b * 33 + t) * 8) i ((b * 33 + t) * 8 + i) = si ((b * 33 + t) * 8 + i) := na_avO (by omega)
      have g3 : na_av (nc_yf z) sf tf ((b * 33 + t) * 8) i ((b * 33 + t) * 8 + i) = sf ((b * 33 + t) * 8 + i) := na_avO (by omega)
      have A228 : ∀ c, c = na_ch z (if z = 0 then ych else 1) sn si sf tn ti tf ((b * 33 + t) * 8) (i + 1) → wY_join_228 post (wY_join_43 post (nI (b * 33 + t)) z cc hc md sel yec yep cs ms oc uc fc (d + 1)) (nI (b * 33 + t)) z (nI i) (nI ((b * 33 + t) * 8 + i)) (nc_yn z (sn ((b * 33 + t) * 8 + i)) (tn i)) (nc_yi z (si ((b * 33 + t) * 8 + i)) (ti i)) (nc_yf z (sf ((b * 33 + t) * 8 + i)) (tf i)) cc hc md sel yec yep cs ms oc uc fc c fk pn pi ln pg (upd rc (b * 33 + t) 1) (na_av (nc_yn z) sn tn ((b * 33 + t) * 8) i) (na_av (nc_yi z) si ti ((b * 33 + t) * 8) i) (na_av (nc_yf z) sf tf ((b * 33 + t) * 8) i) tn ti tf he ou fr := by
        rintro c rfl
        unfold wY_join_228
        rw [c1]
        exact ⟨v1, nm_r (na_avS (nc_yn z) sn tn ((b * 33 + t) * 8) i).symm ⟨v1, nm_r (na_avS (nc_yi z) si ti ((b * 33 + t) * 8) i).symm ⟨v1, nm_r (na_avS (nc_yf z) sf tf ((b * 33 + t) * 8) i).symm (nm_r (nI_1 i) q)⟩⟩⟩
      have A185 : wY_join_185 post (wY_join_43 post (nI (b * 33 + t)) z cc hc md sel yec yep cs ms oc uc fc (d + 1)) (nI (b * 33 + t)) z (nI i) (nI ((b * 33 + t) * 8 + i)) (nc_yn z (sn ((b * 33 + t) * 8 + i)) (tn i)) (nc_yi z (si ((b * 33 + t) * 8 + i)) (ti i)) (nc_yf z (sf ((b * 33 + t) * 8 + i)) (tf i)) cc hc md sel yec yep cs ms oc uc fc (na_ch z (if z = 0 then ych else 1) sn si sf tn ti tf ((b * 33 + t) * 8) i) fk pn pi ln pg (upd rc (b * 33 + t) 1) (na_av (nc_yn z) sn tn ((b * 33 + t) * 8) i) (na_av (nc_yi z) si ti ((b * 33 + t) * 8) i) (na_av (nc_yf z) sf tf ((b * 33 + t) * 8) i) tn ti tf he ou fr := by
        unfold wY_join_185 wY_join_223
        rw [c1, g1, g2, g3]
        refine ⟨v1, br_c (fun e1 => ⟨v1, br_c (fun e2 => ⟨v1, br_c (fun e3 => A228 _ ?_) (fun e3 => A228 _ ?_)⟩) (fun e2 => A228 _ ?_)⟩) (fun e1 => A228 _ ?_)⟩
        · rw [na_ch]
          exact (if_pos ⟨e1, e2, e3⟩).symm
        · rw [na_ch, if_neg (fun e => e3 e.2.2)]
        · rw [na_ch, if_neg (fun e => e2 e.2.1)]
        · rw [na_ch, if_neg (fun e => e1 e.1)]
      have A153 : wY_join_153 post (wY_join_43 post (nI (b * 33 + t)) z cc hc md sel yec yep cs ms oc uc fc (d + 1)) (nI (b * 33 + t)) z (nI i) (nI ((b * 33 + t) * 8 + i)) (nc_yn z (sn ((b * 33 + t) * 8 + i)) (tn i)) (nc_yi z (si ((b * 33 + t) * 8 + i)) (ti i)) cc hc md sel yec yep cs ms oc uc fc (na_ch z (if z = 0 then ych else 1) sn si sf tn ti tf ((b * 33 + t) * 8) i) fk pn pi ln pg (upd rc (b * 33 + t) 1) (na_av (nc_yn z) sn tn ((b * 33 + t) * 8) i) (na_av (nc_yi z) si ti ((b * 33 + t) * 8) i) (na_av (nc_yf z) sf tf ((b * 33 + t) * 8) i) tn ti tf he ou fr := by
        unfold wY_join_153
        rw [c1, c2, g3]
        refine br_c (fun e => ⟨v1, v2, ?_⟩) (fun e => ⟨v2, ?_⟩)
        · have k : nc_yf z (sf ((b * 33 + t) * 8 + i)) (tf i) = sf ((b * 33 + t) * 8 + i) &&& tf i := if_pos e
          rw [← k]
          exact A185
        · have k : nc_yf z (sf ((b * 33 + t) * 8 + i)) (tf i) = tf i := if_neg e
          rw [k] at A185
          exact A185
      have A108 : wY_join_108 post (wY_join_43 post (nI (b * 33 + t)) z cc hc md sel yec yep cs ms oc uc fc (d + 1)) (nI (b * 33 + t)) z (nI i) (nI ((b * 33 + t) * 8 + i)) (nc_yn z (sn ((b * 33 + t) * 8 + i)) (tn i)) cc hc md sel yec yep cs ms oc uc fc (na_ch z (if z = 0 then ych else 1) sn si sf tn ti tf ((b * 33 + t) * 8) i) fk pn pi ln pg (upd rc (b * 33 + t) 1) (na_av (nc_yn z) sn tn ((b * 33 + t) * 8) i) (na_av (nc_yi z) si ti ((b * 33 + t) * 8) i) (na_av (nc_yf z) sf tf ((b * 33 + t) * 8) i) tn ti tf he ou fr := by
        unfold wY_join_108
        rw [c1, c2, g2]
        refine br_c (fun e => ⟨v1, v2, br_c (fun e2 => ⟨v1, ?_⟩) (fun e2 => ?_)⟩) (fun e => ⟨v2, ?_⟩)
        · have k : nc_yi z (si ((b * 33 + t) * 8 + i)) (ti i) = si ((b * 33 + t) * 8 + i) := by unfold nc_yi; rw [if_pos e, if_pos e2]
          rw [k] at A153
          exact A153
        · have k : nc_yi z (si ((b * 33 + t) * 8 + i)) (ti i) = 2 := by unfold nc_yi; rw [if_pos e, if_neg e2]
          rw [k] at A153
          exact A153
        · have k : nc_yi z (si ((b * 33 + t) * 8 + i)) (ti i) = ti i := if_neg e
          rw [k] at A153
          exact A153
      rw [wY_join_43]
      refine br_f (nn_nge 8 (by omega) (by decide)) (nm_r (e' := nI ((b * 33 + t) * 8 + i)) (by rw [nn_m8, nI_add]) ?_)
      rw [c1, c2, g1]
      refine br_c (fun e => ⟨v1, v2, br_c (fun e2 => ⟨v2, ?_⟩) (fun e2 => ⟨v1, ?_⟩)⟩) (fun e => ⟨v2, ?_⟩)
      · have k : nc_yn z (sn ((b * 33 + t) * 8 + i)) (tn i) = tn i := by unfold nc_yn; rw [if_pos e, if_pos e2]
        rw [k] at A108
        exact A108
      · have k : nc_yn z (sn ((b * 33 + t) * 8 + i)) (tn i) = sn ((b * 33 + t) * 8 + i) := by unfold nc_yn; rw [if_pos e, if_neg e2]
        rw [k] at A108
        exact A108
      · have k : nc_yn z (sn ((b * 33 + t) * 8 + i)) (tn i) = tn i := if_neg e
        rw [k] at A108
        exact A108
  have q := K 8 0 (by omega)
  rw [na_av0, na_av0, na_av0] at q
  have w1 : vp_in (nI (b * 33 + t)) 132 := vp_in_nI (by omega) (by decide)
  have A21 : wY_join_21 post (nI (b * 33 + t)) z cc hc md sel yec yep cs ms oc uc fc ych fk pn pi ln pg rc sn si sf tn ti tf he ou fr := by
    unfold wY_join_21
    rw [nI_clamp (by omega), nn_nb1]
    refine br_c (fun e => ⟨w1, nm_e ⟨9, ?_⟩⟩) (fun e => ⟨w1, nm_e ⟨9, ?_⟩⟩)
    · rw [na_ch, if_pos e] at q
      exact q
    · rw [na_ch, if_neg e] at q
      exact q
  unfold wpY_join
  refine nm_r (e' := nI (b * 33 + t)) (by rw [nn_m33, nI_add]) ⟨w1, ?_⟩
  rw [nI_clamp (by omega)]
  refine br_c (fun e => ?_) (fun e => ?_)
  · rw [if_pos e] at hz
    subst hz
    exact A21
  · rw [if_neg e] at hz
    subst hz
    exact A21
theorem yw_e286 {x1 x9 : Int32} {f : Nat} {post : SY → Prop} (h : wY_edges_485 post x1 x9 cc hc md sel yec yep cs ms oc uc fc ych fk pn pi ln pg rc sn si sf tn ti (na_mk tf (((1 : Int32) <<< (nI f &&& 31)) ^^^ (-1)) 8) he ou fr) : ∃ n, wY_edges_286 post x1 (nI f) x9 cc hc md sel yec yep cs ms oc uc fc ych n 0 fk pn pi ln pg rc sn si sf tn ti tf he ou fr := by
  have K : ∀ d i, i + d = 8 → wY_edges_286 post x1 (nI f) x9 cc hc md sel yec yep cs ms oc uc fc ych (d + 1) (nI i) fk pn pi ln pg rc sn si sf tn ti (na_mk tf (((1 : Int32) <<< (nI f &&& 31)) ^^^ (-1)) i) he ou fr := by
    intro d
    induction d with
    | zero =>
      intro i hi
      obtain rfl : i = 8 := by omega
      rw [wY_edges_286]
      exact br_t (by decide) h
    | succ d ih =>
      intro i hi
      rw [wY_edges_286]
      refine br_f (nn_nge 8 (by omega) (by decide)) ⟨vp_in_nI (by omega) (by decide), vp_in_nI (by omega) (by decide), nm_r ?_ (nm_r (nI_1 i) (ih (i + 1) (by omega)))⟩
      rw [nI_clamp (by omega), na_mkS, na_mkO (Nat.le_refl i)]
  have q := K 8 0 (by omega)
  rw [na_mk0] at q
  exact ⟨9, q⟩
theorem yw_e143 {x1 x9 x10 x11 : Int32} {a : Nat} (ha : a < 8) {post : SY → Prop} (h : wY_edges_485 post x1 x9 cc hc md sel yec yep cs ms oc uc fc ych fk pn pi ln pg rc sn si sf (upd tn a 0) (upd ti a x10) (upd (na_mk tf x11 8) a 0) he ou fr) : ∃ n, wY_edges_143 post x1 (nI a) x9 x10 x11 cc hc md sel yec yep cs ms oc uc fc ych n 0 fk pn pi ln pg rc sn si sf tn ti tf he ou fr := by
  have K : ∀ d i, i + d = 8 → wY_edges_143 post x1 (nI a) x9 x10 x11 cc hc md sel yec yep cs ms oc uc fc ych (d + 1) (nI i) fk pn pi ln pg rc sn si sf tn ti (na_mk tf x11 i) he ou fr := by
    intro d
    induction d with
    | zero =>
      intro i hi
      obtain rfl : i = 8 := by omega
      rw [wY_edges_143]
      exact br_t (by decide) (yw_set ha h)
    | succ d ih =>
      intro i hi
      rw [wY_edges_143]
      refine br_f (nn_nge 8 (by omega) (by decide)) ⟨vp_in_nI (by omega) (by decide), vp_in_nI (by omega) (by decide), nm_r ?_ (nm_r (nI_1 i) (ih (i + 1) (by omega)))⟩
      rw [nI_clamp (by omega), na_mkS, na_mkO (Nat.le_refl i)]
  have q := K 8 0 (by omega)
  rw [na_mk0] at q
  exact ⟨9, q⟩
end
end
section
/-! one point's edges, both sides at once -/
theorem nr_setF {ed tn ti tf : Nat → Int32} {a : Nat} {s f : Int32} (h : nr_er ed tn ti tf) (hc : ∃ c, nc_cr s (tn a) (ti a) f c) : nr_er (upd ed a s) tn ti (upd tf a f) := by
  intro l hl
  by_cases e : l = a
  · subst e
    rw [pk_us, pk_us]
    exact hc
  · rw [pk_un e, pk_un e]
    exact h l hl
theorem nr_ldE {so rc sn si sf ed tn ti tf : Nat → Int32} {q : Nat} (h : nr_pt so rc sn si sf q) (h1 : rc q = 1) : nr_er (na_ld so ed (q * 8) 8) (na_ld sn tn (q * 8) 8) (na_ld si ti (q * 8) 8) (na_ld sf tf (q * 8) 8) := by
  intro l hl
  rw [na_ldI hl, na_ldI hl, na_ldI hl, na_ldI hl]
  rcases h with ⟨h2, _⟩ | ⟨_, h3⟩
  · rw [h1] at h2
    exact absurd h2 (by decide)
  · exact h3 l hl
section
variable {cc hc md sel cs ec ep ms oc fc uc : Int32} {fk pn pi ln pg so ed he fr ou rc sn si sf tn ti tf : Nat → Int32}
theorem ar_both {b T t C : Nat} {L : Nat → Nat} (hb : b < 4) (hC : C ≤ 32) (hln : nv_ln L C ln) (hT : T < 2 ^ 30) (ht : t = if L b ≤ T then L b else T) (hE : nr_er ed tn ti tf) (hq : nr_pt so rc sn si sf (b * 33 + t)) : ∃ (r : Int32) (so' rc' sn' si' sf' : Nat → Int32), nr_go b so rc sn si sf so' rc' sn' si' sf' r ∧ (∀ q' l, l < 8 → rc q' = 1 → (q' = b * 33 + t → tn l = sn ((b * 33 + t) * 8 + l) ∧ ti l = si ((b * 33 + t) * 8 + l) ∧ tf l = sf ((b * 33 + t) * 8 + l)) → sn' (q' * 8 + l) = sn (q' * 8 + l) ∧ si' (q' * 8 + l) = si (q' * 8 + l) ∧ sf' (q' * 8 + l) = sf (q' * 8 + l)) ∧ (∀ post : Int32 → SX → Prop, post r (cc, hc, md, sel, cs, ec, ep, ms, oc, fc, uc, fk, pn, pi, ln, pg, so', ed, he, fr, ou) → wpX_arrive post (cc, hc, md, sel, cs, ec, ep, ms, oc, fc, uc, fk, pn, pi, ln, pg, so, ed, he, fr, ou) (nI b) (nI T)) ∧ (∀ (yec yep ych : Int32) (post : SY → Prop), post (cc, hc, md, sel, yec, yep, cs, ms, oc, uc, fc, (if r = 0 then ych else 1), fk, pn, pi, ln, pg, rc', sn', si', sf', tn, ti, tf, he, ou, fr) → wpY_join post (cc, hc, md, sel, yec, yep, cs, ms, oc, uc, fc, ych, fk, pn, pi, ln, pg, rc, sn, si, sf, tn, ti, tf, he, ou, fr) (nI b) (nI t)) := by
  obtain ⟨hl, hl2⟩ := hln b hb
  have ht2 : t ≤ 32 := by
    subst ht
    split <;> omega
  refine ⟨na_rs so ed ((b * 33 + t) * 8) 8, _, upd rc (b * 33 + t) 1, _, _, _, nr_arG (z := if rc (b * 33 + t) = 0 then 1 else 0) (by omega) (by omega) hq hE rfl, ?_, ?_, ?_⟩
  · intro q' l hl h1 e
    exact nr_keep hl h1 rfl e
  · intro post h
    exact xw_arrive hb hl (by omega) hT ht h
  · intro yec yep ych post h
    refine yw_join hb ht2 rfl ?_
    rw [nr_arH hq hE rfl ych]
    exact h
end
def nf_fl (b p : Nat) (cc hc md sel cs ec ep ms oc fc uc : Int32) (fk pn pi ln pg so ed he fr ou rc sn si sf tn ti tf : Nat → Int32) : Prop := ∃ (r : Int32) (so' ed' rc' sn' si' sf' tn' ti' tf' : Nat → Int32), nr_go b so rc sn si sf so' rc' sn' si' sf' r ∧ (∀ post : Int32 → SX → Prop, post r (cc, hc, md, sel, cs, ec, ep, ms, oc, fc, uc, fk, pn, pi, ln, pg, so', ed', he, fr, ou) → wpX_flow post (cc, hc, md, sel, cs, ec, ep, ms, oc, fc, uc, fk, pn, pi, ln, pg, so, ed, he, fr, ou) (nI b) (nI p)) ∧ (∀ (yec yep ych : Int32) (post : SY → Prop), post (cc, hc, md, sel, yec, yep, cs, ms, oc, uc, fc, (if r = 0 then ych else 1), fk, pn, pi, ln, pg, rc', sn', si', sf', tn', ti', tf', he, ou, fr) → wpY_edges post (cc, hc, md, sel, yec, yep, cs, ms, oc, uc, fc, ych, fk, pn, pi, ln, pg, rc, sn, si, sf, tn, ti, tf, he, ou, fr) (nI b) (nI p))
section
variable {cc hc md sel cs ec ep ms oc fc uc : Int32} {fk pn pi ln pg so ed he fr ou rc sn si sf tn ti tf : Nat → Int32} {b p C : Nat} {L : Nat → Nat} {o A B K : Nat}
theorem fl_core {T t : Nat} {ed' tn' ti' tf' : Nat → Int32} (hb : b < 4) (hC : C ≤ 32) (hln : nv_ln L C ln) (hp : p < L b) (eo : pg ((b * 32 + p) * 4) = nI o) (ea : pg ((b * 32 + p) * 4 + 1) = nI A) (eB : pg ((b * 32 + p) * 4 + 2) = nI B) (eK : pg ((b * 32 + p) * 4 + 3) = nI K) (hS : nr_S (b + 1) L so rc sn si sf) (ho : o < 10) (ho5 : o ≠ 5) (ho6 : o ≠ 6) (hE : nr_er ed' tn' ti' tf') (hT : T < 2 ^ 30) (ht : t = if L b ≤ T then L b else T) (hTv : (if o = 7 then nI A else if o = 8 then ln b else nI (p + 1)) = nI T) (hX : ∀ post : SX → Prop, post (cc, hc, md, sel, cs, ec, ep, ms, oc, fc, uc, fk, pn, pi, ln, pg, so, ed', he, fr, ou) → wpX_changeEdge post (cc, hc, md, sel, cs, ec, ep, ms, oc, fc, uc, fk, pn, pi, ln, pg, so, (na_ld so ed ((b * 33 + p) * 8) 8), he, fr, ou) (nI o) (nI A) (nI B) (nI K)) (hY : ∀ (yec yep ych : Int32) (post : SY → Prop), wY_edges_485 post (nI b) (nI t) cc hc md sel yec yep cs ms oc uc fc ych fk pn pi ln pg rc sn si sf tn' ti' tf' he ou fr → wpY_edges post (cc, hc, md, sel, yec, yep, cs, ms, oc, uc, fc, ych, fk, pn, pi, ln, pg, rc, sn, si, sf, tn, ti, tf, he, ou, fr) (nI b) (nI p)) : nf_fl b p cc hc md sel cs ec ep ms oc fc uc fk pn pi ln pg so ed he fr ou rc sn si sf tn ti tf := by
  obtain ⟨hlb, hl2⟩ := hln b hb
  have ht2 : t ≤ L b := by
    subst ht
    split <;> omega
  obtain ⟨r, so', rc', sn', si', sf', hg, _, hAX, hAY⟩ := ar_both (ed := ed') (tn := tn') (ti := ti') (tf := tf') (cc := cc) (hc := hc) (md := md) (sel := sel) (cs := cs) (ec := ec) (ep := ep) (ms := ms) (oc := oc) (fc := fc) (uc := uc) (fk := fk) (pn := pn) (pi := pi) (pg := pg) (he := he) (fr := fr) (ou := ou) hb hC hln hT ht hE (hS b (by omega) t ht2)
  refine ⟨r, so', ed', rc', sn', si', sf', tn', ti', tf', hg, fun post h => ?_, fun yec yep ych post h => ?_⟩
  · have F : wX_flow_135 post (nI b) (nI T) cc hc md sel cs ec ep ms oc fc uc fk pn pi ln pg so ed' he fr ou := by
      unfold wX_flow_135
      exact hAX _ ⟨nn_b hg.1, h⟩
    unfold wpX_flow wpX_codeAt
    rw [nn_ct]
    refine ⟨vp_in_nI (by omega) (by decide), nm_r (e' := nI o) (by rw [nI_clamp (by omega)]; exact eo) ⟨pk_in _ 512 (by omega) (nn_a1 _) (by decide), nm_r (e' := nI A) (by rw [nn_a1, nI_clamp (by omega)]; exact ea) ⟨pk_in _ 512 (by omega) (nn_a2 _) (by decide), nm_r (e' := nI B) (by rw [nn_a2, nI_clamp (by omega)]; exact eB) ⟨pk_in _ 512 (by omega) (nn_a3 _) (by decide), nm_r (e' := nI K) (by rw [nn_a3, nI_clamp (by omega)]; exact eK) ?_⟩⟩⟩⟩
    refine xw_load hb (by omega) ?_
    refine br_f (fun e => ho5 ((nl_eq5 (by omega)).mp e)) (br_f (fun e => ho6 ((nl_eq6 (by omega)).mp e)) (hX _ ?_))
    refine nm_r (nn_a1 p) (br_c (fun e => ?_) (fun e => br_c (fun e2 => ⟨vp_in_nI hb (by decide), nm_r (e' := nI T) ?_ F⟩) (fun e2 => ?_)))
    · have k : nI A = nI T := by rw [← hTv, if_pos ((nl_eq7 (by omega)).mp e)]
      rw [k]
      exact F
    · rw [← hTv, nI_clamp (by omega), if_neg (fun z => e ((nl_eq7 (by omega)).mpr z)), if_pos ((nl_eq8 (by omega)).mp e2)]
    · have k : nI (p + 1) = nI T := by rw [← hTv, if_neg (fun z => e ((nl_eq7 (by omega)).mpr z)), if_neg (fun z => e2 ((nl_eq8 (by omega)).mpr z))]
      rw [k]
      exact F
  · refine hY yec yep ych post ?_
    unfold wY_edges_485
    exact hAY yec yep ych _ h
end
end
section
/-! the edges of one point, op by op -/
section
variable {cc hc md sel cs ec ep ms oc fc uc : Int32} {fk pn pi ln pg so ed he fr ou rc sn si sf tn ti tf : Nat → Int32} {b p C : Nat} {L : Nat → Nat} {A B K : Nat}
theorem fl_0 (hb : b < 4) (hC : C ≤ 32) (hln : nv_ln L C ln) (hp : p < L b) (ea : pg ((b * 32 + p) * 4 + 1) = nI A) (eB : pg ((b * 32 + p) * 4 + 2) = nI B) (eK : pg ((b * 32 + p) * 4 + 3) = nI K) (hS : nr_S (b + 1) L so rc sn si sf) (h1 : rc (b * 33 + p) = 1) (eo : pg ((b * 32 + p) * 4) = nI 0) (hA : A < 8) : nf_fl b p cc hc md sel cs ec ep ms oc fc uc fk pn pi ln pg so ed he fr ou rc sn si sf tn ti tf := by
  obtain ⟨hlb, hl2⟩ := hln b hb
  have hE0 : nr_er (na_ld so ed ((b * 33 + p) * 8) 8) (na_ld sn tn ((b * 33 + p) * 8) 8) (na_ld si ti ((b * 33 + p) * 8) 8) (na_ld sf tf ((b * 33 + p) * 8) 8) := nr_ldE (hS b (by omega) p (by omega)) h1
  refine fl_core (o := 0) (T := p + 1) (t := p + 1) (ed' := upd (na_ld so ed ((b * 33 + p) * 8) 8) A 1) (tn' := upd (na_ld sn tn ((b * 33 + p) * 8) 8) A 1) (ti' := upd (na_ld si ti ((b * 33 + p) * 8) 8) A 0) (tf' := upd (na_ld sf tf ((b * 33 + p) * 8) 8) A 0) hb hC hln hp eo ea eB eK hS (by omega) (by omega) (by omega) (nr_set hE0 nr_c1) (by omega) (by split <;> omega) (by simp) ?_ ?_
  · intro post h
    unfold wpX_changeEdge
    exact br_f (by decide) (br_f (by decide) (br_t (by decide) ⟨vp_in_nI hA (by decide), nm_r (by rw [nI_clamp (by omega)]) h⟩))
  · intro yec yep ych post h
    unfold wpY_edges
    refine nm_r (nn_ct b p) ⟨vp_in_nI (by omega) (by decide), nm_r (e' := nI 0) (by rw [nI_clamp (by omega)]; exact eo) ⟨pk_in _ 512 (by omega) (nn_a1 _) (by decide), nm_r (e' := nI A) (by rw [nn_a1, nI_clamp (by omega)]; exact ea) ⟨pk_in _ 512 (by omega) (nn_a2 _) (by decide), nm_r (e' := nI B) (by rw [nn_a2, nI_clamp (by omega)]; exact eB) ⟨pk_in _ 512 (by omega) (nn_a3 _) (by decide), nm_r (e' := nI K) (by rw [nn_a3, nI_clamp (by omega)]; exact eK) ⟨vp_in_nI hb (by decide), nm_r (e' := nI (L b)) (by rw [nI_clamp (by omega)]; exact hlb) (nm_r (nn_a1 p) ?_)⟩⟩⟩⟩⟩
    refine yw_load hb (by omega) ?_
    exact br_t (by decide) (yw_set hA h)
theorem fl_1 (hb : b < 4) (hC : C ≤ 32) (hln : nv_ln L C ln) (hp : p < L b) (ea : pg ((b * 32 + p) * 4 + 1) = nI A) (eB : pg ((b * 32 + p) * 4 + 2) = nI B) (eK : pg ((b * 32 + p) * 4 + 3) = nI K) (hS : nr_S (b + 1) L so rc sn si sf) (h1 : rc (b * 33 + p) = 1) (eo : pg ((b * 32 + p) * 4) = nI 1) (hA : A < 8) (hB : B < 8) : nf_fl b p cc hc md sel cs ec ep ms oc fc uc fk pn pi ln pg so ed he fr ou rc sn si sf tn ti tf := by
  obtain ⟨hlb, hl2⟩ := hln b hb
  have hE0 : nr_er (na_ld so ed ((b * 33 + p) * 8) 8) (na_ld sn tn ((b * 33 + p) * 8) 8) (na_ld si ti ((b * 33 + p) * 8) 8) (na_ld sf tf ((b * 33 + p) * 8) 8) := nr_ldE (hS b (by omega) p (by omega)) h1
  obtain ⟨c, hcx⟩ := hE0 B hB
  refine fl_core (o := 1) (T := p + 1) (t := p + 1) (ed' := upd (na_ld so ed ((b * 33 + p) * 8) 8) A ((na_ld so ed ((b * 33 + p) * 8) 8) B)) (tn' := upd (na_ld sn tn ((b * 33 + p) * 8) 8) A ((na_ld sn tn ((b * 33 + p) * 8) 8) B)) (ti' := upd (na_ld si ti ((b * 33 + p) * 8) 8) A ((na_ld si ti ((b * 33 + p) * 8) 8) B)) (tf' := upd (na_ld sf tf ((b * 33 + p) * 8) 8) A ((na_ld sf tf ((b * 33 + p) * 8) 8) B)) hb hC hln hp eo ea eB eK hS (by omega) (by omega) (by omega) (nr_set hE0 hcx) (by omega) (by split <;> omega) (by simp) ?_ ?_
  · intro post h
    unfold wpX_changeEdge
    exact br_f (by decide) (br_f (by decide) (br_f (by decide) (br_t (by decide) ⟨vp_in_nI hB (by decide), vp_in_nI hA (by decide), nm_r (by rw [nI_clamp (by omega), nI_clamp (by omega)]) h⟩)))
  · intro yec yep ych post h
    unfold wpY_edges
    refine nm_r (nn_ct b p) ⟨vp_in_nI (by omega) (by decide), nm_r (e' := nI 1) (by rw [nI_clamp (by omega)]; exact eo) ⟨pk_in _ 512 (by omega) (nn_a1 _) (by decide), nm_r (e' := nI A) (by rw [nn_a1, nI_clamp (by omega)]; exact ea) ⟨pk_in _ 512 (by omega) (nn_a2 _) (by decide), nm_r (e' := nI B) (by rw [nn_a2, nI_clamp (by omega)]; exact eB) ⟨pk_in _ 512 (by omega) (nn_a3 _) (by decide), nm_r (e' := nI K) (by rw [nn_a3, nI_clamp (by omega)]; exact eK) ⟨vp_in_nI hb (by decide), nm_r (e' := nI (L b)) (by rw [nI_clamp (by omega)]; exact hlb) (nm_r (nn_a1 p) ?_)⟩⟩⟩⟩⟩
    refine yw_load hb (by omega) ?_
    refine br_f (by decide) (br_t (by decide) ⟨vp_in_nI hB (by decide), vp_in_nI hB (by decide), vp_in_nI hB (by decide), ?_⟩)
    rw [nI_clamp (n := B) (by omega)]
    exact yw_set hA h
theorem fl_2 (hb : b < 4) (hC : C ≤ 32) (hln : nv_ln L C ln) (hp : p < L b) (ea : pg ((b * 32 + p) * 4 + 1) = nI A) (eB : pg ((b * 32 + p) * 4 + 2) = nI B) (eK : pg ((b * 32 + p) * 4 + 3) = nI K) (hS : nr_S (b + 1) L so rc sn si sf) (h1 : rc (b * 33 + p) = 1) (eo : pg ((b * 32 + p) * 4) = nI 2) (hA : A < 8) (hK : K < 8) (hfk : ∀ j, j < 4 → fk j = 0 ∨ fk j = 1) : nf_fl b p cc hc md sel cs ec ep ms oc fc uc fk pn pi ln pg so ed he fr ou rc sn si sf tn ti tf := by
  obtain ⟨hlb, hl2⟩ := hln b hb
  have hE0 : nr_er (na_ld so ed ((b * 33 + p) * 8) 8) (na_ld sn tn ((b * 33 + p) * 8) 8) (na_ld si ti ((b * 33 + p) * 8) 8) (na_ld sf tf ((b * 33 + p) * 8) 8) := nr_ldE (hS b (by omega) p (by omega)) h1
  obtain ⟨c, hcx⟩ := hE0 K hK
  obtain ⟨d, hd⟩ := ne_mkc (n := 0) (Or.inl rfl) (ne_ini hcx).2
  have hd2 : nc_cr (0 + 2 * (((na_ld so ed ((b * 33 + p) * 8) 8) K &&& 6) / 2)) 0 ((na_ld si ti ((b * 33 + p) * 8) 8) K) 0 d := by
    rw [(ne_ini hcx).1]
    exact hd
  refine fl_core (o := 2) (T := p + 1) (t := p + 1) (ed' := upd (ne_xf fk (na_ld so ed ((b * 33 + p) * 8) 8) 4) A (0 + 2 * (((na_ld so ed ((b * 33 + p) * 8) 8) K &&& 6) / 2))) (tn' := upd (na_ld sn tn ((b * 33 + p) * 8) 8) A 0) (ti' := upd (na_ld si ti ((b * 33 + p) * 8) 8) A ((na_ld si ti ((b * 33 + p) * 8) 8) K)) (tf' := upd (na_mk (na_ld sf tf ((b * 33 + p) * 8) 8) (ne_ym fk 4) 8) A 0) hb hC hln hp eo ea eB eK hS (by omega) (by omega) (by omega) (nr_set (ne_new hfk hE0) hd2) (by omega) (by split <;> omega) (by simp) ?_ ?_
  · intro post h
    unfold wpX_changeEdge
    exact br_f (by decide) (br_f (by decide) (br_f (by decide) (br_f (by decide) (br_t (by decide) (xw_cnew hA hK h)))))
  · intro yec yep ych post h
    unfold wpY_edges
    refine nm_r (nn_ct b p) ⟨vp_in_nI (by omega) (by decide), nm_r (e' := nI 2) (by rw [nI_clamp (by omega)]; exact eo) ⟨pk_in _ 512 (by omega) (nn_a1 _) (by decide), nm_r (e' := nI A) (by rw [nn_a1, nI_clamp (by omega)]; exact ea) ⟨pk_in _ 512 (by omega) (nn_a2 _) (by decide), nm_r (e' := nI B) (by rw [nn_a2, nI_clamp (by omega)]; exact eB) ⟨pk_in _ 512 (by omega) (nn_a3 _) (by decide), nm_r (e' := nI K) (by rw [nn_a3, nI_clamp (by omega)]; exact eK) ⟨vp_in_nI hb (by decide), nm_r (e' := nI (L b)) (by rw [nI_clamp (by omega)]; exact hlb) (nm_r (nn_a1 p) ?_)⟩⟩⟩⟩⟩
    refine yw_load hb (by omega) ?_
    exact br_f (by decide) (br_f (by decide) (br_t (by decide) ⟨vp_in_nI hK (by decide), nm_r (e' := (na_ld si ti ((b * 33 + p) * 8) 8) K) (by rw [nI_clamp (by omega)]) (yw_mask (yw_e143 hA h))⟩))
theorem fl_3 (hb : b < 4) (hC : C ≤ 32) (hln : nv_ln L C ln) (hp : p < L b) (ea : pg ((b * 32 + p) * 4 + 1) = nI A) (eB : pg ((b * 32 + p) * 4 + 2) = nI B) (eK : pg ((b * 32 + p) * 4 + 3) = nI K) (hS : nr_S (b + 1) L so rc sn si sf) (h1 : rc (b * 33 + p) = 1) (eo : pg ((b * 32 + p) * 4) = nI 3) (hA : A < 8) (hB : B < 8) (hK : K < 4) : nf_fl b p cc hc md sel cs ec ep ms oc fc uc fk pn pi ln pg so ed he fr ou rc sn si sf tn ti tf := by
  obtain ⟨hlb, hl2⟩ := hln b hb
  have hE0 : nr_er (na_ld so ed ((b * 33 + p) * 8) 8) (na_ld sn tn ((b * 33 + p) * 8) 8) (na_ld si ti ((b * 33 + p) * 8) 8) (na_ld sf tf ((b * 33 + p) * 8) 8) := nr_ldE (hS b (by omega) p (by omega)) h1
  obtain ⟨c, hcx⟩ := hE0 B hB
  obtain ⟨n, hn⟩ : ∃ n : Int32, n = if fk K = 0 then 0 else if ((na_ld so ed ((b * 33 + p) * 8) 8) B &&& ((8 : Int32) <<< (nI K &&& 31))) = 0 then 1 else 0 := ⟨_, rfl⟩
  obtain ⟨i, hi⟩ : ∃ i : Int32, i = if ((na_ld so ed ((b * 33 + p) * 8) 8) B &&& 6) / 2 = 0 then 0 else 2 := ⟨_, rfl⟩
  have hn2 : n = 0 ∨ n = 1 := by
    rw [hn]
    split
    · exact Or.inl rfl
    · split
      · exact Or.inr rfl
      · exact Or.inl rfl
  have hi2 : i = 0 ∨ i = 1 ∨ i = 2 := by
    rw [hi]
    split
    · exact Or.inl rfl
    · exact Or.inr (Or.inr rfl)
  obtain ⟨d, hd⟩ := ne_mkc hn2 hi2
  refine fl_core (o := 3) (T := p + 1) (t := p + 1) (ed' := upd (na_ld so ed ((b * 33 + p) * 8) 8) A (n + 2 * i)) (tn' := upd (na_ld sn tn ((b * 33 + p) * 8) 8) A n) (ti' := upd (na_ld si ti ((b * 33 + p) * 8) 8) A i) (tf' := upd (na_ld sf tf ((b * 33 + p) * 8) 8) A 0) hb hC hln hp eo ea eB eK hS (by omega) (by omega) (by omega) (nr_set hE0 hd) (by omega) (by split <;> omega) (by simp) ?_ ?_
  · intro post h
    unfold wpX_changeEdge
    exact br_f (by decide) (br_f (by decide) (br_f (by decide) (br_f (by decide) (br_f (by decide) (br_t (by decide) (xw_cget hA hB hK hn hi h))))))
  · intro yec yep ych post h
    unfold wpY_edges
    refine nm_r (nn_ct b p) ⟨vp_in_nI (by omega) (by decide), nm_r (e' := nI 3) (by rw [nI_clamp (by omega)]; exact eo) ⟨pk_in _ 512 (by omega) (nn_a1 _) (by decide), nm_r (e' := nI A) (by rw [nn_a1, nI_clamp (by omega)]; exact ea) ⟨pk_in _ 512 (by omega) (nn_a2 _) (by decide), nm_r (e' := nI B) (by rw [nn_a2, nI_clamp (by omega)]; exact eB) ⟨pk_in _ 512 (by omega) (nn_a3 _) (by decide), nm_r (e' := nI K) (by rw [nn_a3, nI_clamp (by omega)]; exact eK) ⟨vp_in_nI hb (by decide), nm_r (e' := nI (L b)) (by rw [nI_clamp (by omega)]; exact hlb) (nm_r (nn_a1 p) ?_)⟩⟩⟩⟩⟩
    refine yw_load hb (by omega) ?_
    have G234 : ∀ z, z = i → wY_edges_234 post (nI b) (nI A) (nI (p + 1)) n z cc hc md sel yec yep cs ms oc uc fc ych fk pn pi ln pg rc sn si sf (na_ld sn tn ((b * 33 + p) * 8) 8) (na_ld si ti ((b * 33 + p) * 8) 8) (na_ld sf tf ((b * 33 + p) * 8) 8) he ou fr := by
      rintro z rfl
      unfold wY_edges_234
      exact yw_set hA h
    have G217 : ∀ z, z = n → wY_edges_217 post (nI b) (nI A) (nI B) (nI (p + 1)) z cc hc md sel yec yep cs ms oc uc fc ych fk pn pi ln pg rc sn si sf (na_ld sn tn ((b * 33 + p) * 8) 8) (na_ld si ti ((b * 33 + p) * 8) 8) (na_ld sf tf ((b * 33 + p) * 8) 8) he ou fr := by
      rintro z rfl
      unfold wY_edges_217
      rw [nI_clamp (n := B) (by omega)]
      refine ⟨vp_in_nI hB (by decide), br_c (fun e => G234 _ ?_) (fun e => G234 _ ?_)⟩
      · rw [hi, (ne_ini hcx).1, if_pos e]
      · rw [hi, (ne_ini hcx).1, if_neg e]
    refine br_f (by decide) (br_f (by decide) (br_f (by decide) (br_t (by decide) ⟨vp_in_nI hK (by decide), ?_⟩)))
    rw [nI_clamp (n := K) (by omega), nI_clamp (n := B) (by omega)]
    refine br_c (fun e => ?_) (fun e => ⟨vp_in_nI hB (by decide), br_c (fun e2 => ?_) (fun e2 => ?_)⟩)
    · unfold wY_edges_212
      exact G217 0 (by rw [hn, if_pos e])
    · exact G217 1 (by rw [hn, if_neg e, if_pos ((ne_kn hK hcx).mpr e2)])
    · unfold wY_edges_212
      exact G217 0 (by rw [hn, if_neg e, if_neg (fun z => e2 ((ne_kn hK hcx).mp z))])
theorem fl_4a (hb : b < 4) (hC : C ≤ 32) (hln : nv_ln L C ln) (hp : p < L b) (ea : pg ((b * 32 + p) * 4 + 1) = nI A) (eB : pg ((b * 32 + p) * 4 + 2) = nI B) (eK : pg ((b * 32 + p) * 4 + 3) = nI K) (hS : nr_S (b + 1) L so rc sn si sf) (h1 : rc (b * 33 + p) = 1) (eo : pg ((b * 32 + p) * 4) = nI 4) (hA : A < 8) (hB : B < 4) (hK : K < 8) (e : (na_ld sn tn ((b * 33 + p) * 8) 8) K = 0) : nf_fl b p cc hc md sel cs ec ep ms oc fc uc fk pn pi ln pg so ed he fr ou rc sn si sf tn ti tf := by
  obtain ⟨hlb, hl2⟩ := hln b hb
  have hE0 : nr_er (na_ld so ed ((b * 33 + p) * 8) 8) (na_ld sn tn ((b * 33 + p) * 8) 8) (na_ld si ti ((b * 33 + p) * 8) 8) (na_ld sf tf ((b * 33 + p) * 8) 8) := nr_ldE (hS b (by omega) p (by omega)) h1
  obtain ⟨c, hcx⟩ := hE0 K hK
  obtain ⟨cA, hcA⟩ := hE0 A hA
  refine fl_core (o := 4) (T := p + 1) (t := p + 1) (ed' := upd (na_ld so ed ((b * 33 + p) * 8) 8) A ((na_ld so ed ((b * 33 + p) * 8) 8) A ||| ((8 : Int32) <<< (nI B &&& 31)))) (tn' := (na_ld sn tn ((b * 33 + p) * 8) 8)) (ti' := (na_ld si ti ((b * 33 + p) * 8) 8)) (tf' := upd (na_ld sf tf ((b * 33 + p) * 8) 8) A ((na_ld sf tf ((b * 33 + p) * 8) 8) A ||| ((1 : Int32) <<< (nI B &&& 31)))) hb hC hln hp eo ea eB eK hS (by omega) (by omega) (by omega) (nr_setF hE0 (ne_put hB hcA)) (by omega) (by split <;> omega) (by simp) ?_ ?_
  · intro post h
    unfold wpX_changeEdge
    exact br_f (by decide) (br_f (by decide) (br_f (by decide) (br_f (by decide) (br_f (by decide) (br_f (by decide) (br_t (by decide) (xw_cput hA hK (fun _ => h) (fun z => absurd ((ne_nu hcx).1.trans e) z))))))))
  · intro yec yep ych post h
    unfold wpY_edges
    refine nm_r (nn_ct b p) ⟨vp_in_nI (by omega) (by decide), nm_r (e' := nI 4) (by rw [nI_clamp (by omega)]; exact eo) ⟨pk_in _ 512 (by omega) (nn_a1 _) (by decide), nm_r (e' := nI A) (by rw [nn_a1, nI_clamp (by omega)]; exact ea) ⟨pk_in _ 512 (by omega) (nn_a2 _) (by decide), nm_r (e' := nI B) (by rw [nn_a2, nI_clamp (by omega)]; exact eB) ⟨pk_in _ 512 (by omega) (nn_a3 _) (by decide), nm_r (e' := nI K) (by rw [nn_a3, nI_clamp (by omega)]; exact eK) ⟨vp_in_nI hb (by decide), nm_r (e' := nI (L b)) (by rw [nI_clamp (by omega)]; exact hlb) (nm_r (nn_a1 p) ?_)⟩⟩⟩⟩⟩
    refine yw_load hb (by omega) ?_
    refine br_f (by decide) (br_f (by decide) (br_f (by decide) (br_f (by decide) (br_t (by decide) ⟨vp_in_nI hK (by decide), ?_⟩))))
    rw [nI_clamp (n := K) (by omega), nI_clamp (n := A) (by omega)]
    exact br_t e ⟨vp_in_nI hA (by decide), vp_in_nI hA (by decide), nm_e h⟩
theorem fl_4b (hb : b < 4) (hC : C ≤ 32) (hln : nv_ln L C ln) (hp : p < L b) (ea : pg ((b * 32 + p) * 4 + 1) = nI A) (eB : pg ((b * 32 + p) * 4 + 2) = nI B) (eK : pg ((b * 32 + p) * 4 + 3) = nI K) (hS : nr_S (b + 1) L so rc sn si sf) (h1 : rc (b * 33 + p) = 1) (eo : pg ((b * 32 + p) * 4) = nI 4) (hA : A < 8) (hB : B < 4) (hK : K < 8) (e : ¬ (na_ld sn tn ((b * 33 + p) * 8) 8) K = 0) : nf_fl b p cc hc md sel cs ec ep ms oc fc uc fk pn pi ln pg so ed he fr ou rc sn si sf tn ti tf := by
  obtain ⟨hlb, hl2⟩ := hln b hb
  have hE0 : nr_er (na_ld so ed ((b * 33 + p) * 8) 8) (na_ld sn tn ((b * 33 + p) * 8) 8) (na_ld si ti ((b * 33 + p) * 8) 8) (na_ld sf tf ((b * 33 + p) * 8) 8) := nr_ldE (hS b (by omega) p (by omega)) h1
  obtain ⟨c, hcx⟩ := hE0 K hK
  refine fl_core (o := 4) (T := p + 1) (t := p + 1) (ed' := na_mk (na_ld so ed ((b * 33 + p) * 8) 8) (((8 : Int32) <<< (nI B &&& 31)) ^^^ (-1)) 8) (tn' := (na_ld sn tn ((b * 33 + p) * 8) 8)) (ti' := (na_ld si ti ((b * 33 + p) * 8) 8)) (tf' := na_mk (na_ld sf tf ((b * 33 + p) * 8) 8) (((1 : Int32) <<< (nI B &&& 31)) ^^^ (-1)) 8) hb hC hln hp eo ea eB eK hS (by omega) (by omega) (by omega) (ne_fgt hB hE0) (by omega) (by split <;> omega) (by simp) ?_ ?_
  · intro post h
    unfold wpX_changeEdge
    exact br_f (by decide) (br_f (by decide) (br_f (by decide) (br_f (by decide) (br_f (by decide) (br_f (by decide) (br_t (by decide) (xw_cput hA hK (fun z => absurd ((ne_nu hcx).1.symm.trans z) e) (fun _ => h))))))))
  · intro yec yep ych post h
    unfold wpY_edges
    refine nm_r (nn_ct b p) ⟨vp_in_nI (by omega) (by decide), nm_r (e' := nI 4) (by rw [nI_clamp (by omega)]; exact eo) ⟨pk_in _ 512 (by omega) (nn_a1 _) (by decide), nm_r (e' := nI A) (by rw [nn_a1, nI_clamp (by omega)]; exact ea) ⟨pk_in _ 512 (by omega) (nn_a2 _) (by decide), nm_r (e' := nI B) (by rw [nn_a2, nI_clamp (by omega)]; exact eB) ⟨pk_in _ 512 (by omega) (nn_a3 _) (by decide), nm_r (e' := nI K) (by rw [nn_a3, nI_clamp (by omega)]; exact eK) ⟨vp_in_nI hb (by decide), nm_r (e' := nI (L b)) (by rw [nI_clamp (by omega)]; exact hlb) (nm_r (nn_a1 p) ?_)⟩⟩⟩⟩⟩
    refine yw_load hb (by omega) ?_
    refine br_f (by decide) (br_f (by decide) (br_f (by decide) (br_f (by decide) (br_t (by decide) ⟨vp_in_nI hK (by decide), ?_⟩))))
    rw [nI_clamp (n := K) (by omega)]
    exact br_f e (yw_e286 h)
theorem fl_7 (hb : b < 4) (hC : C ≤ 32) (hln : nv_ln L C ln) (hp : p < L b) (ea : pg ((b * 32 + p) * 4 + 1) = nI A) (eB : pg ((b * 32 + p) * 4 + 2) = nI B) (eK : pg ((b * 32 + p) * 4 + 3) = nI K) (hS : nr_S (b + 1) L so rc sn si sf) (h1 : rc (b * 33 + p) = 1) (eo : pg ((b * 32 + p) * 4) = nI 7) (hA : A < 33) : nf_fl b p cc hc md sel cs ec ep ms oc fc uc fk pn pi ln pg so ed he fr ou rc sn si sf tn ti tf := by
  obtain ⟨hlb, hl2⟩ := hln b hb
  have hE0 : nr_er (na_ld so ed ((b * 33 + p) * 8) 8) (na_ld sn tn ((b * 33 + p) * 8) 8) (na_ld si ti ((b * 33 + p) * 8) 8) (na_ld sf tf ((b * 33 + p) * 8) 8) := nr_ldE (hS b (by omega) p (by omega)) h1
  refine fl_core (o := 7) (T := A) (t := if L b ≤ A then L b else A) (ed' := (na_ld so ed ((b * 33 + p) * 8) 8)) (tn' := (na_ld sn tn ((b * 33 + p) * 8) 8)) (ti' := (na_ld si ti ((b * 33 + p) * 8) 8)) (tf' := (na_ld sf tf ((b * 33 + p) * 8) 8)) hb hC hln hp eo ea eB eK hS (by omega) (by omega) (by omega) hE0 (by omega) rfl (by simp) ?_ ?_
  · intro post h
    unfold wpX_changeEdge
    exact br_f (by decide) (br_t (by decide) h)
  · intro yec yep ych post h
    unfold wpY_edges
    refine nm_r (nn_ct b p) ⟨vp_in_nI (by omega) (by decide), nm_r (e' := nI 7) (by rw [nI_clamp (by omega)]; exact eo) ⟨pk_in _ 512 (by omega) (nn_a1 _) (by decide), nm_r (e' := nI A) (by rw [nn_a1, nI_clamp (by omega)]; exact ea) ⟨pk_in _ 512 (by omega) (nn_a2 _) (by decide), nm_r (e' := nI B) (by rw [nn_a2, nI_clamp (by omega)]; exact eB) ⟨pk_in _ 512 (by omega) (nn_a3 _) (by decide), nm_r (e' := nI K) (by rw [nn_a3, nI_clamp (by omega)]; exact eK) ⟨vp_in_nI hb (by decide), nm_r (e' := nI (L b)) (by rw [nI_clamp (by omega)]; exact hlb) (nm_r (nn_a1 p) ?_)⟩⟩⟩⟩⟩
    refine yw_load hb (by omega) ?_
    refine br_f (by decide) (br_f (by decide) (br_f (by decide) (br_f (by decide) (br_f (by decide) (br_f (by decide) (br_f (by decide) (br_t (by decide) (pk_lt A (L b) (fun e => ?_) (fun e => ?_)))))))))
    · rw [if_neg (by omega)] at h
      exact h
    · rw [if_pos e] at h
      exact h
theorem fl_8 (hb : b < 4) (hC : C ≤ 32) (hln : nv_ln L C ln) (hp : p < L b) (ea : pg ((b * 32 + p) * 4 + 1) = nI A) (eB : pg ((b * 32 + p) * 4 + 2) = nI B) (eK : pg ((b * 32 + p) * 4 + 3) = nI K) (hS : nr_S (b + 1) L so rc sn si sf) (h1 : rc (b * 33 + p) = 1) (eo : pg ((b * 32 + p) * 4) = nI 8)  : nf_fl b p cc hc md sel cs ec ep ms oc fc uc fk pn pi ln pg so ed he fr ou rc sn si sf tn ti tf := by
  obtain ⟨hlb, hl2⟩ := hln b hb
  have hE0 : nr_er (na_ld so ed ((b * 33 + p) * 8) 8) (na_ld sn tn ((b * 33 + p) * 8) 8) (na_ld si ti ((b * 33 + p) * 8) 8) (na_ld sf tf ((b * 33 + p) * 8) 8) := nr_ldE (hS b (by omega) p (by omega)) h1
  refine fl_core (o := 8) (T := L b) (t := L b) (ed' := (na_ld so ed ((b * 33 + p) * 8) 8)) (tn' := (na_ld sn tn ((b * 33 + p) * 8) 8)) (ti' := (na_ld si ti ((b * 33 + p) * 8) 8)) (tf' := (na_ld sf tf ((b * 33 + p) * 8) 8)) hb hC hln hp eo ea eB eK hS (by omega) (by omega) (by omega) hE0 (by omega) (by simp) (by simp [hlb]) ?_ ?_
  · intro post h
    unfold wpX_changeEdge
    exact br_f (by decide) (br_t (by decide) h)
  · intro yec yep ych post h
    unfold wpY_edges
    refine nm_r (nn_ct b p) ⟨vp_in_nI (by omega) (by decide), nm_r (e' := nI 8) (by rw [nI_clamp (by omega)]; exact eo) ⟨pk_in _ 512 (by omega) (nn_a1 _) (by decide), nm_r (e' := nI A) (by rw [nn_a1, nI_clamp (by omega)]; exact ea) ⟨pk_in _ 512 (by omega) (nn_a2 _) (by decide), nm_r (e' := nI B) (by rw [nn_a2, nI_clamp (by omega)]; exact eB) ⟨pk_in _ 512 (by omega) (nn_a3 _) (by decide), nm_r (e' := nI K) (by rw [nn_a3, nI_clamp (by omega)]; exact eK) ⟨vp_in_nI hb (by decide), nm_r (e' := nI (L b)) (by rw [nI_clamp (by omega)]; exact hlb) (nm_r (nn_a1 p) ?_)⟩⟩⟩⟩⟩
    refine yw_load hb (by omega) ?_
    exact br_f (by decide) (br_f (by decide) (br_f (by decide) (br_f (by decide) (br_f (by decide) (br_f (by decide) (br_f (by decide) (br_f (by decide) (br_t (by decide) h))))))))
theorem fl_9 (hb : b < 4) (hC : C ≤ 32) (hln : nv_ln L C ln) (hp : p < L b) (ea : pg ((b * 32 + p) * 4 + 1) = nI A) (eB : pg ((b * 32 + p) * 4 + 2) = nI B) (eK : pg ((b * 32 + p) * 4 + 3) = nI K) (hS : nr_S (b + 1) L so rc sn si sf) (h1 : rc (b * 33 + p) = 1) (eo : pg ((b * 32 + p) * 4) = nI 9)  : nf_fl b p cc hc md sel cs ec ep ms oc fc uc fk pn pi ln pg so ed he fr ou rc sn si sf tn ti tf := by
  obtain ⟨hlb, hl2⟩ := hln b hb
  have hE0 : nr_er (na_ld so ed ((b * 33 + p) * 8) 8) (na_ld sn tn ((b * 33 + p) * 8) 8) (na_ld si ti ((b * 33 + p) * 8) 8) (na_ld sf tf ((b * 33 + p) * 8) 8) := nr_ldE (hS b (by omega) p (by omega)) h1
  refine fl_core (o := 9) (T := p + 1) (t := p + 1) (ed' := (na_ld so ed ((b * 33 + p) * 8) 8)) (tn' := (na_ld sn tn ((b * 33 + p) * 8) 8)) (ti' := (na_ld si ti ((b * 33 + p) * 8) 8)) (tf' := (na_ld sf tf ((b * 33 + p) * 8) 8)) hb hC hln hp eo ea eB eK hS (by omega) (by omega) (by omega) hE0 (by omega) (by split <;> omega) (by simp) ?_ ?_
  · intro post h
    unfold wpX_changeEdge
    exact br_f (by decide) (br_t (by decide) h)
  · intro yec yep ych post h
    unfold wpY_edges
    refine nm_r (nn_ct b p) ⟨vp_in_nI (by omega) (by decide), nm_r (e' := nI 9) (by rw [nI_clamp (by omega)]; exact eo) ⟨pk_in _ 512 (by omega) (nn_a1 _) (by decide), nm_r (e' := nI A) (by rw [nn_a1, nI_clamp (by omega)]; exact ea) ⟨pk_in _ 512 (by omega) (nn_a2 _) (by decide), nm_r (e' := nI B) (by rw [nn_a2, nI_clamp (by omega)]; exact eB) ⟨pk_in _ 512 (by omega) (nn_a3 _) (by decide), nm_r (e' := nI K) (by rw [nn_a3, nI_clamp (by omega)]; exact eK) ⟨vp_in_nI hb (by decide), nm_r (e' := nI (L b)) (by rw [nI_clamp (by omega)]; exact hlb) (nm_r (nn_a1 p) ?_)⟩⟩⟩⟩⟩
    refine yw_load hb (by omega) ?_
    exact br_f (by decide) (br_f (by decide) (br_f (by decide) (br_f (by decide) (br_f (by decide) (br_f (by decide) (br_f (by decide) (br_f (by decide) (br_f (by decide) (h)))))))))
theorem ft_both {TN tN TZ tZ : Nat} (hb : b < 4) (hC : C ≤ 32) (hln : nv_ln L C ln) (hp : p < L b) (ea : pg ((b * 32 + p) * 4 + 1) = nI A) (eB : pg ((b * 32 + p) * 4 + 2) = nI B) (eK : pg ((b * 32 + p) * 4 + 3) = nI K) (hS : nr_S (b + 1) L so rc sn si sf) (h1 : rc (b * 33 + p) = 1) (hA : A < 8) (hTN : TN < 2 ^ 30) (htN : tN = if L b ≤ TN then L b else TN) (hTZ : TZ < 2 ^ 30) (htZ : tZ = if L b ≤ TZ then L b else TZ) : ∃ (r : Int32) (so' ed' rc' sn' si' sf' tn' ti' tf' : Nat → Int32), nr_go b so rc sn si sf so' rc' sn' si' sf' r ∧ (∀ post : Int32 → SX → Prop, post r (cc, hc, md, sel, cs, ec, ep, ms, oc, fc, uc, fk, pn, pi, ln, pg, so', ed', he, fr, ou) → wpX_flowTest post (cc, hc, md, sel, cs, ec, ep, ms, oc, fc, uc, fk, pn, pi, ln, pg, so, (na_ld so ed ((b * 33 + p) * 8) 8), he, fr, ou) (nI b) (nI A) (nI TZ) (nI TN)) ∧ (∀ (yec yep ych m : Int32) (post : SY → Prop), (m = if (na_ld sn tn ((b * 33 + p) * 8) 8) A = 1 then 1 else 0) → post (cc, hc, md, sel, yec, yep, cs, ms, oc, uc, fc, (if r = 0 then ych else 1), fk, pn, pi, ln, pg, rc', sn', si', sf', tn', ti', tf', he, ou, fr) → wY_edges_403 post (nI b) (nI p) (nI A) m (nI tN) (nI tZ) cc hc md sel yec yep cs ms oc uc fc ych fk pn pi ln pg rc sn si sf (na_ld sn tn ((b * 33 + p) * 8) 8) (na_ld si ti ((b * 33 + p) * 8) 8) (na_ld sf tf ((b * 33 + p) * 8) 8) he ou fr) := by
  obtain ⟨hlb, hl2⟩ := hln b hb
  have hE0 : nr_er (na_ld so ed ((b * 33 + p) * 8) 8) (na_ld sn tn ((b * 33 + p) * 8) 8) (na_ld si ti ((b * 33 + p) * 8) 8) (na_ld sf tf ((b * 33 + p) * 8) 8) := nr_ldE (hS b (by omega) p (by omega)) h1
  obtain ⟨c, hcx⟩ := hE0 A hA
  have hN : tN ≤ L b := by
    subst htN
    split <;> omega
  have hZ : tZ ≤ L b := by
    subst htZ
    split <;> omega
  have vA : vp_in (nI A) 8 := vp_in_nI hA (by decide)
  have cA : (nI A).toNatClampNeg = A := nI_clamp (by omega)
  have hE1 : nr_er (upd (na_ld so ed ((b * 33 + p) * 8) 8) A ((na_ld so ed ((b * 33 + p) * 8) 8) A &&& 126)) (upd (na_ld sn tn ((b * 33 + p) * 8) 8) A 0) (na_ld si ti ((b * 33 + p) * 8) 8) (na_ld sf tf ((b * 33 + p) * 8) 8) := by
    intro l hl
    by_cases d : l = A
    · subst d
      rw [pk_us, pk_us]
      exact ⟨_, nc_cr0 hcx⟩
    · rw [pk_un d, pk_un d]
      exact hE0 l hl
  obtain ⟨r1, so1, rc1, sn1, si1, sf1, hg1, hk1, hX1, hY1⟩ := ar_both (ed := upd (na_ld so ed ((b * 33 + p) * 8) 8) A ((na_ld so ed ((b * 33 + p) * 8) 8) A &&& 126)) (tn := upd (na_ld sn tn ((b * 33 + p) * 8) 8) A 0) (ti := (na_ld si ti ((b * 33 + p) * 8) 8)) (tf := (na_ld sf tf ((b * 33 + p) * 8) 8)) (cc := cc) (hc := hc) (md := md) (sel := sel) (cs := cs) (ec := ec) (ep := ep) (ms := ms) (oc := oc) (fc := fc) (uc := uc) (fk := fk) (pn := pn) (pi := pi) (pg := pg) (he := he) (fr := fr) (ou := ou) hb hC hln hTN htN hE1 (hS b (by omega) tN hN)
  by_cases e : (na_ld sn tn ((b * 33 + p) * 8) 8) A = 1
  · have hS1 : nr_S (b + 1) L so1 rc1 sn1 si1 sf1 := fun b' hb' p' hp' => hg1.2.1 _ (hS b' hb' p' hp')
    have hE2 : nr_er (upd (upd (na_ld so ed ((b * 33 + p) * 8) 8) A ((na_ld so ed ((b * 33 + p) * 8) 8) A &&& 126)) A 1) (upd (na_ld sn1 (upd (na_ld sn tn ((b * 33 + p) * 8) 8) A 0) ((b * 33 + p) * 8) 8) A 1) (upd (na_ld si1 (na_ld si ti ((b * 33 + p) * 8) 8) ((b * 33 + p) * 8) 8) A 0) (upd (na_ld sf1 (na_ld sf tf ((b * 33 + p) * 8) 8) ((b * 33 + p) * 8) 8) A 0) := by
      intro l hl
      by_cases d : l = A
      · subst d
        rw [pk_us, pk_us, pk_us, pk_us]
        exact ⟨1, nr_c1⟩
      · have k := hk1 (b * 33 + p) l hl h1 (fun z => by
          rw [pk_un d, na_ldI hl, na_ldI hl, na_ldI hl, ← z]
          exact ⟨rfl, rfl, rfl⟩)
        rw [pk_un d, pk_un d, pk_un d, pk_un d, pk_un d, na_ldI (s := sn1) hl, na_ldI (s := si1) hl, na_ldI (s := sf1) hl, k.1, k.2.1, k.2.2]
        have k2 := hE0 l hl
        rw [na_ldI (s := sn) hl, na_ldI (s := si) hl, na_ldI (s := sf) hl] at k2
        exact k2
    obtain ⟨r2, so2, rc2, sn2, si2, sf2, hg2, _, hX2, hY2⟩ := ar_both (so := so1) (rc := rc1) (sn := sn1) (si := si1) (sf := sf1) (ed := upd (upd (na_ld so ed ((b * 33 + p) * 8) 8) A ((na_ld so ed ((b * 33 + p) * 8) 8) A &&& 126)) A 1) (tn := upd (na_ld sn1 (upd (na_ld sn tn ((b * 33 + p) * 8) 8) A 0) ((b * 33 + p) * 8) 8) A 1) (ti := upd (na_ld si1 (na_ld si ti ((b * 33 + p) * 8) 8) ((b * 33 + p) * 8) 8) A 0) (tf := upd (na_ld sf1 (na_ld sf tf ((b * 33 + p) * 8) 8) ((b * 33 + p) * 8) 8) A 0) (cc := cc) (hc := hc) (md := md) (sel := sel) (cs := cs) (ec := ec) (ep := ep) (ms := ms) (oc := oc) (fc := fc) (uc := uc) (fk := fk) (pn := pn) (pi := pi) (pg := pg) (he := he) (fr := fr) (ou := ou) hb hC hln hTZ htZ hE2 (hS1 b (by omega) tZ hZ)
    refine ⟨if r2 = 0 then r1 else 1, so2, upd (upd (na_ld so ed ((b * 33 + p) * 8) 8) A ((na_ld so ed ((b * 33 + p) * 8) 8) A &&& 126)) A 1, rc2, sn2, si2, sf2, upd (na_ld sn1 (upd (na_ld sn tn ((b * 33 + p) * 8) 8) A 0) ((b * 33 + p) * 8) 8) A 1, upd (na_ld si1 (na_ld si ti ((b * 33 + p) * 8) 8) ((b * 33 + p) * 8) 8) A 0, upd (na_ld sf1 (na_ld sf tf ((b * 33 + p) * 8) 8) ((b * 33 + p) * 8) 8) A 0, nr_goT hg1 hg2, fun post h => ?_, fun yec yep ych m post hm h => ?_⟩
    · unfold wpX_flowTest wpX_nullnessOf
      refine ⟨vA, ?_⟩
      rw [cA]
      refine br_t ((ne_nu hcx).1.trans e) ?_
      unfold wX_flowTest_18
      rw [cA]
      refine ⟨vA, vA, nm_e (hX1 _ ?_)⟩
      refine br_f (by decide) ⟨vA, nm_e (hX2 _ ?_)⟩
      refine br_c (fun z => ⟨nn_b hg1.1, ?_⟩) (fun z => ?_)
      · rw [if_pos z] at h
        exact h
      · rw [if_neg z] at h
        exact h
    · rw [if_pos e] at hm
      subst hm
      have kk : (if (if r2 = 0 then r1 else 1) = 0 then ych else 1) = if r2 = 0 then (if r1 = 0 then ych else 1) else 1 := by
        by_cases z : r2 = 0
        · rw [if_pos z, if_pos z]
        · rw [if_neg z, if_neg z, if_neg (by decide)]
      rw [kk] at h
      unfold wY_edges_403
      rw [cA]
      refine ⟨vA, nm_e (hY1 yec yep ych _ ?_)⟩
      refine br_f (by decide) (yw_load hb (by omega) (yw_set hA (hY2 yec yep _ _ ?_)))
      exact h
  · refine ⟨r1, so1, upd (na_ld so ed ((b * 33 + p) * 8) 8) A ((na_ld so ed ((b * 33 + p) * 8) 8) A &&& 126), rc1, sn1, si1, sf1, upd (na_ld sn tn ((b * 33 + p) * 8) 8) A 0, (na_ld si ti ((b * 33 + p) * 8) 8), (na_ld sf tf ((b * 33 + p) * 8) 8), hg1, fun post h => ?_, fun yec yep ych m post hm h => ?_⟩
    · unfold wpX_flowTest wpX_nullnessOf
      refine ⟨vA, ?_⟩
      rw [cA]
      refine br_f (fun z => e ((ne_nu hcx).1.symm.trans z)) ?_
      unfold wX_flowTest_18
      rw [cA]
      exact ⟨vA, vA, nm_e (hX1 _ (br_t rfl ⟨nn_b hg1.1, h⟩))⟩
    · rw [if_neg e] at hm
      subst hm
      unfold wY_edges_403
      rw [cA]
      exact ⟨vA, nm_e (hY1 yec yep ych _ (br_t rfl h))⟩
theorem fl_5 (hb : b < 4) (hC : C ≤ 32) (hln : nv_ln L C ln) (hp : p < L b) (ea : pg ((b * 32 + p) * 4 + 1) = nI A) (eB : pg ((b * 32 + p) * 4 + 2) = nI B) (eK : pg ((b * 32 + p) * 4 + 3) = nI K) (hS : nr_S (b + 1) L so rc sn si sf) (h1 : rc (b * 33 + p) = 1) (eo : pg ((b * 32 + p) * 4) = nI 5) (hA : A < 8) (hB : B < 33) : nf_fl b p cc hc md sel cs ec ep ms oc fc uc fk pn pi ln pg so ed he fr ou rc sn si sf tn ti tf := by
  obtain ⟨hlb, hl2⟩ := hln b hb
  have hE0 : nr_er (na_ld so ed ((b * 33 + p) * 8) 8) (na_ld sn tn ((b * 33 + p) * 8) 8) (na_ld si ti ((b * 33 + p) * 8) 8) (na_ld sf tf ((b * 33 + p) * 8) 8) := nr_ldE (hS b (by omega) p (by omega)) h1
  obtain ⟨r, so', ed', rc', sn', si', sf', tn', ti', tf', hg, hX, hY⟩ := ft_both (TN := p + 1) (tN := p + 1) (TZ := B) (tZ := if L b ≤ B then L b else B) (ed := ed) (tn := tn) (ti := ti) (tf := tf) (cc := cc) (hc := hc) (md := md) (sel := sel) (cs := cs) (ec := ec) (ep := ep) (ms := ms) (oc := oc) (fc := fc) (uc := uc) (fk := fk) (pn := pn) (pi := pi) (pg := pg) (he := he) (fr := fr) (ou := ou) hb hC hln hp ea eB eK hS h1 hA (by omega) (by split <;> omega) (by omega) rfl
  refine ⟨r, so', ed', rc', sn', si', sf', tn', ti', tf', hg, fun post h => ?_, fun yec yep ych post h => ?_⟩
  · unfold wpX_flow wpX_codeAt
    rw [nn_ct]
    refine ⟨vp_in_nI (by omega) (by decide), nm_r (e' := nI 5) (by rw [nI_clamp (by omega)]; exact eo) ⟨pk_in _ 512 (by omega) (nn_a1 _) (by decide), nm_r (e' := nI A) (by rw [nn_a1, nI_clamp (by omega)]; exact ea) ⟨pk_in _ 512 (by omega) (nn_a2 _) (by decide), nm_r (e' := nI B) (by rw [nn_a2, nI_clamp (by omega)]; exact eB) ⟨pk_in _ 512 (by omega) (nn_a3 _) (by decide), nm_r (e' := nI K) (by rw [nn_a3, nI_clamp (by omega)]; exact eK) ?_⟩⟩⟩⟩
    refine xw_load hb (by omega) (br_t (by decide) ?_)
    rw [nn_a1 p]
    exact hX _ ⟨nn_b hg.1, h⟩
  · unfold wpY_edges
    refine nm_r (nn_ct b p) ⟨vp_in_nI (by omega) (by decide), nm_r (e' := nI 5) (by rw [nI_clamp (by omega)]; exact eo) ⟨pk_in _ 512 (by omega) (nn_a1 _) (by decide), nm_r (e' := nI A) (by rw [nn_a1, nI_clamp (by omega)]; exact ea) ⟨pk_in _ 512 (by omega) (nn_a2 _) (by decide), nm_r (e' := nI B) (by rw [nn_a2, nI_clamp (by omega)]; exact eB) ⟨pk_in _ 512 (by omega) (nn_a3 _) (by decide), nm_r (e' := nI K) (by rw [nn_a3, nI_clamp (by omega)]; exact eK) ⟨vp_in_nI hb (by decide), nm_r (e' := nI (L b)) (by rw [nI_clamp (by omega)]; exact hlb) (nm_r (nn_a1 p) ?_)⟩⟩⟩⟩⟩
    refine yw_load hb (by omega) (br_f (by decide) (br_f (by decide) (br_f (by decide) (br_f (by decide) (br_f (by decide) (br_t (by decide) ?_))))))
    have G : ∀ m : Int32, (m = if (na_ld sn tn ((b * 33 + p) * 8) 8) A = 1 then 1 else 0) → wY_edges_347 post (nI b) (nI p) (nI 5) (nI A) (nI B) (nI (L b)) m cc hc md sel yec yep cs ms oc uc fc ych fk pn pi ln pg rc sn si sf (na_ld sn tn ((b * 33 + p) * 8) 8) (na_ld si ti ((b * 33 + p) * 8) 8) (na_ld sf tf ((b * 33 + p) * 8) 8) he ou fr := by
      intro m hm
      have g := hY yec yep ych m post hm h
      unfold wY_edges_347 wY_edges_375
      rw [nn_a1 p]
      refine br_t (by decide) (br_t (by decide) (pk_lt B (L b) (fun z => ?_) (fun z => ?_)))
      · rw [if_neg (by omega)] at g
        exact g
      · rw [if_pos z] at g
        exact g
    unfold wY_edges_331
    rw [nI_clamp (n := A) (by omega)]
    refine ⟨vp_in_nI hA (by decide), br_c (fun z => G 1 ?_) (fun z => G 0 ?_)⟩
    · rw [if_pos z]
    · rw [if_neg z]
theorem fl_6 (hb : b < 4) (hC : C ≤ 32) (hln : nv_ln L C ln) (hp : p < L b) (ea : pg ((b * 32 + p) * 4 + 1) = nI A) (eB : pg ((b * 32 + p) * 4 + 2) = nI B) (eK : pg ((b * 32 + p) * 4 + 3) = nI K) (hS : nr_S (b + 1) L so rc sn si sf) (h1 : rc (b * 33 + p) = 1) (eo : pg ((b * 32 + p) * 4) = nI 6) (hA : A < 8) (hB : B < 33) : nf_fl b p cc hc md sel cs ec ep ms oc fc uc fk pn pi ln pg so ed he fr ou rc sn si sf tn ti tf := by
  obtain ⟨hlb, hl2⟩ := hln b hb
  have hE0 : nr_er (na_ld so ed ((b * 33 + p) * 8) 8) (na_ld sn tn ((b * 33 + p) * 8) 8) (na_ld si ti ((b * 33 + p) * 8) 8) (na_ld sf tf ((b * 33 + p) * 8) 8) := nr_ldE (hS b (by omega) p (by omega)) h1
  obtain ⟨r, so', ed', rc', sn', si', sf', tn', ti', tf', hg, hX, hY⟩ := ft_both (TZ := p + 1) (tZ := p + 1) (TN := B) (tN := if L b ≤ B then L b else B) (ed := ed) (tn := tn) (ti := ti) (tf := tf) (cc := cc) (hc := hc) (md := md) (sel := sel) (cs := cs) (ec := ec) (ep := ep) (ms := ms) (oc := oc) (fc := fc) (uc := uc) (fk := fk) (pn := pn) (pi := pi) (pg := pg) (he := he) (fr := fr) (ou := ou) hb hC hln hp ea eB eK hS h1 hA (by omega) rfl (by omega) (by split <;> omega)
  refine ⟨r, so', ed', rc', sn', si', sf', tn', ti', tf', hg, fun post h => ?_, fun yec yep ych post h => ?_⟩
  · unfold wpX_flow wpX_codeAt
    rw [nn_ct]
    refine ⟨vp_in_nI (by omega) (by decide), nm_r (e' := nI 6) (by rw [nI_clamp (by omega)]; exact eo) ⟨pk_in _ 512 (by omega) (nn_a1 _) (by decide), nm_r (e' := nI A) (by rw [nn_a1, nI_clamp (by omega)]; exact ea) ⟨pk_in _ 512 (by omega) (nn_a2 _) (by decide), nm_r (e' := nI B) (by rw [nn_a2, nI_clamp (by omega)]; exact eB) ⟨pk_in _ 512 (by omega) (nn_a3 _) (by decide), nm_r (e' := nI K) (by rw [nn_a3, nI_clamp (by omega)]; exact eK) ?_⟩⟩⟩⟩
    refine xw_load hb (by omega) (br_f (by decide) (br_t (by decide) ?_))
    rw [nn_a1 p]
    exact hX _ ⟨nn_b hg.1, h⟩
  · unfold wpY_edges
    refine nm_r (nn_ct b p) ⟨vp_in_nI (by omega) (by decide), nm_r (e' := nI 6) (by rw [nI_clamp (by omega)]; exact eo) ⟨pk_in _ 512 (by omega) (nn_a1 _) (by decide), nm_r (e' := nI A) (by rw [nn_a1, nI_clamp (by omega)]; exact ea) ⟨pk_in _ 512 (by omega) (nn_a2 _) (by decide), nm_r (e' := nI B) (by rw [nn_a2, nI_clamp (by omega)]; exact eB) ⟨pk_in _ 512 (by omega) (nn_a3 _) (by decide), nm_r (e' := nI K) (by rw [nn_a3, nI_clamp (by omega)]; exact eK) ⟨vp_in_nI hb (by decide), nm_r (e' := nI (L b)) (by rw [nI_clamp (by omega)]; exact hlb) (nm_r (nn_a1 p) ?_)⟩⟩⟩⟩⟩
    refine yw_load hb (by omega) (br_f (by decide) (br_f (by decide) (br_f (by decide) (br_f (by decide) (br_f (by decide) (br_f (by decide) (br_t (by decide) ?_)))))))
    have G : ∀ m : Int32, (m = if (na_ld sn tn ((b * 33 + p) * 8) 8) A = 1 then 1 else 0) → wY_edges_347 post (nI b) (nI p) (nI 6) (nI A) (nI B) (nI (L b)) m cc hc md sel yec yep cs ms oc uc fc ych fk pn pi ln pg rc sn si sf (na_ld sn tn ((b * 33 + p) * 8) 8) (na_ld si ti ((b * 33 + p) * 8) 8) (na_ld sf tf ((b * 33 + p) * 8) 8) he ou fr := by
      intro m hm
      have g := hY yec yep ych m post hm h
      unfold wY_edges_347 wY_edges_375
      rw [nn_a1 p]
      refine br_f (by decide) (pk_lt B (L b) (fun z => br_f (by decide) ?_) (fun z => br_f (by decide) ?_))
      · rw [if_neg (by omega)] at g
        exact g
      · rw [if_pos z] at g
        exact g
    unfold wY_edges_331
    rw [nI_clamp (n := A) (by omega)]
    refine ⟨vp_in_nI hA (by decide), br_c (fun z => G 1 ?_) (fun z => G 0 ?_)⟩
    · rw [if_pos z]
    · rw [if_neg z]
theorem fl_both (hb : b < 4) (hC : C ≤ 32) (hde : nv_de fk pn pi) (hln : nv_ln L C ln) (hpg : nv_pg L pg) (hp : p < L b) (hS : nr_S (b + 1) L so rc sn si sf) (h1 : rc (b * 33 + p) = 1) : nf_fl b p cc hc md sel cs ec ep ms oc fc uc fk pn pi ln pg so ed he fr ou rc sn si sf tn ti tf := by
  obtain ⟨o, A, B, K, eo, ea, eB, eK, i1, i2, i3, i4, i5, i6, i7, i8, i9⟩ := hpg b hb p hp
  have ho : o = 0 ∨ o = 1 ∨ o = 2 ∨ o = 3 ∨ o = 4 ∨ o = 5 ∨ o = 6 ∨ o = 7 ∨ o = 8 ∨ o = 9 := by omega
  rcases ho with rfl | rfl | rfl | rfl | rfl | rfl | rfl | rfl | rfl | rfl
  · exact fl_0 hb hC hln hp ea eB eK hS h1 eo (i5 (by omega))
  · exact fl_1 hb hC hln hp ea eB eK hS h1 eo (i5 (by omega)) (i6 (by omega))
  · exact fl_2 hb hC hln hp ea eB eK hS h1 eo (i5 (by omega)) i4 hde.1
  · exact fl_3 hb hC hln hp ea eB eK hS h1 eo (i5 (by omega)) (i6 (by omega)) (i9 rfl)
  · by_cases e : (na_ld sn tn ((b * 33 + p) * 8) 8) K = 0
    · exact fl_4a hb hC hln hp ea eB eK hS h1 eo (i5 (by omega)) (i8 rfl) i4 e
    · exact fl_4b hb hC hln hp ea eB eK hS h1 eo (i5 (by omega)) (i8 rfl) i4 e
  · exact fl_5 hb hC hln hp ea eB eK hS h1 eo (i5 (by omega)) i3
  · exact fl_6 hb hC hln hp ea eB eK hS h1 eo (i5 (by omega)) i3
  · exact fl_7 hb hC hln hp ea eB eK hS h1 eo i2
  · exact fl_8 hb hC hln hp ea eB eK hS h1 eo
  · exact fl_9 hb hC hln hp ea eB eK hS h1 eo
end
end
section
/-! a block is solved, both sides at once -/
theorem nn_s0 (b : Nat) : (nI b * 33 + 0) * 8 = nI (b * 264) := by
  have e := nn_st b 0
  rw [nI_0] at e
  rw [e]
  exact congrArg nI (by omega)
theorem nn_kk (R r g : Int32) : (if (if R = 0 then r else 1) = 0 then g else 1) = if R = 0 then (if r = 0 then g else 1) else 1 := by
  by_cases z : R = 0
  · rw [if_pos z, if_pos z]
  · rw [if_neg z, if_neg z, if_neg (by decide)]
section
variable {cc hc md sel cs ec ep ms oc fc uc : Int32} {fk pn pi ln pg he fr ou : Nat → Int32} {b C : Nat} {L : Nat → Nat}
theorem sv_in (hb : b < 4) (hC : C ≤ 32) (hde : nv_de fk pn pi) (hln : nv_ln L C ln) (hpg : nv_pg L pg) : ∀ (d p : Nat), p + d = L b → ∀ (so ed rc sn si sf tn ti tf : Nat → Int32) (g : Int32), nr_S (b + 1) L so rc sn si sf → ∃ (R : Int32) (so' ed' rc' sn' si' sf' tn' ti' tf' : Nat → Int32), nr_go b so rc sn si sf so' rc' sn' si' sf' R ∧ (∀ (post : SX → Prop) (J : Int32 → Int32 → Int32 → Int32 → Int32 → Int32 → Int32 → Int32 → Int32 → Int32 → Int32 → Int32 → Int32 → (Nat → Int32) → (Nat → Int32) → (Nat → Int32) → (Nat → Int32) → (Nat → Int32) → (Nat → Int32) → (Nat → Int32) → (Nat → Int32) → (Nat → Int32) → (Nat → Int32) → Prop) (x3 : Int32), J (if R = 0 then g else 1) (x3 + 1) cc hc md sel cs ec ep ms oc fc uc fk pn pi ln pg so' ed' he fr ou → wX_solve_19 post J (nI b) x3 (d + 1) g (nI p) cc hc md sel cs ec ep ms oc fc uc fk pn pi ln pg so ed he fr ou) ∧ (∀ (yec yep : Int32) (post : SY → Prop) (J : Int32 → Int32 → Int32 → Int32 → Int32 → Int32 → Int32 → Int32 → Int32 → Int32 → Int32 → Int32 → Int32 → (Nat → Int32) → (Nat → Int32) → (Nat → Int32) → (Nat → Int32) → (Nat → Int32) → (Nat → Int32) → (Nat → Int32) → (Nat → Int32) → (Nat → Int32) → (Nat → Int32) → (Nat → Int32) → (Nat → Int32) → (Nat → Int32) → (Nat → Int32) → (Nat → Int32) → Prop) (x3 : Int32), J (x3 + 1) cc hc md sel yec yep cs ms oc uc fc (if R = 0 then g else 1) fk pn pi ln pg rc' sn' si' sf' tn' ti' tf' he ou fr → wY_solve_134 post J (nI b) x3 (d + 1) (nI p) cc hc md sel yec yep cs ms oc uc fc g fk pn pi ln pg rc sn si sf tn ti tf he ou fr) := by
  obtain ⟨hlb, hl2⟩ := hln b hb
  have cb : (nI b).toNatClampNeg = b := nI_clamp (by omega)
  have vb : vp_in (nI b) 4 := vp_in_nI hb (by decide)
  intro d
  induction d with
  | zero =>
    intro p hpd so ed rc sn si sf tn ti tf g hS
    refine ⟨0, so, ed, rc, sn, si, sf, tn, ti, tf, nr_go0, fun post J x3 h => ?_, fun yec yep post J x3 h => ?_⟩
    · rw [if_pos rfl] at h
      rw [wX_solve_19]
      refine ⟨vb, ?_⟩
      rw [cb, hlb]
      exact br_t (nI_le (by omega) (by omega)) (nm_e h)
    · rw [if_pos rfl] at h
      rw [wY_solve_134]
      refine ⟨vb, ?_⟩
      rw [cb, hlb]
      exact br_t (nI_le (by omega) (by omega)) (nm_e h)
  | succ d ih =>
    intro p hpd so ed rc sn si sf tn ti tf g hS
    have hq := hS b (by omega) p (by omega)
    have ngt : ¬ nI (L b) ≤ nI p := nI_ge (by omega) (by omega)
    obtain ⟨hrs, h01⟩ := nr_pt1 hq
    have c1 : (nI ((b * 33 + p) * 8)).toNatClampNeg = (b * 33 + p) * 8 := nI_clamp (by omega)
    have c2 : (nI (b * 33 + p)).toNatClampNeg = b * 33 + p := nI_clamp (by omega)
    have v1 : vp_in (nI ((b * 33 + p) * 8)) 1056 := vp_in_nI (by omega) (by decide)
    have v2 : vp_in (nI (b * 33 + p)) 132 := vp_in_nI (by omega) (by decide)
    rcases h01 with z | z
    · obtain ⟨R, so', ed', rc', sn', si', sf', tn', ti', tf', hg, hX, hY⟩ := ih (p + 1) (by omega) so ed rc sn si sf tn ti tf g hS
      refine ⟨R, so', ed', rc', sn', si', sf', tn', ti', tf', hg, fun post J x3 h => ?_, fun yec yep post J x3 h => ?_⟩
      · rw [wX_solve_19]
        refine ⟨vb, ?_⟩
        rw [cb, hlb]
        refine br_f ngt ?_
        unfold wpX_isReached wpX_stateAt
        rw [nn_st]
        refine ⟨v1, ?_⟩
        rw [c1]
        exact br_t (hrs.mpr z) (br_t rfl (nm_r (nI_1 p) (hX post J x3 h)))
      · rw [wY_solve_134]
        refine ⟨vb, ?_⟩
        rw [cb, hlb]
        refine br_f ngt ?_
        rw [nn_m33, nI_add, c2]
        exact ⟨v2, br_t z (nm_r (nI_1 p) (hY yec yep post J x3 h))⟩
    · obtain ⟨r, so1, ed1, rc1, sn1, si1, sf1, tn1, ti1, tf1, hg1, hX1, hY1⟩ := fl_both (ed := ed) (tn := tn) (ti := ti) (tf := tf) (cc := cc) (hc := hc) (md := md) (sel := sel) (cs := cs) (ec := ec) (ep := ep) (ms := ms) (oc := oc) (fc := fc) (uc := uc) (he := he) (fr := fr) (ou := ou) hb hC hde hln hpg (show p < L b by omega) hS z
      have hS1 : nr_S (b + 1) L so1 rc1 sn1 si1 sf1 := fun b' hb' p' hp' => hg1.2.1 _ (hS b' hb' p' hp')
      obtain ⟨R, so', ed', rc', sn', si', sf', tn', ti', tf', hg, hX, hY⟩ := ih (p + 1) (by omega) so1 ed1 rc1 sn1 si1 sf1 tn1 ti1 tf1 (if r = 0 then g else 1) hS1
      refine ⟨if R = 0 then r else 1, so', ed', rc', sn', si', sf', tn', ti', tf', nr_goT hg1 hg, fun post J x3 h => ?_, fun yec yep post J x3 h => ?_⟩
      · rw [nn_kk] at h
        have q := hX post J x3 h
        rw [wX_solve_19]
        refine ⟨vb, ?_⟩
        rw [cb, hlb]
        refine br_f ngt ?_
        unfold wpX_isReached wpX_stateAt
        rw [nn_st]
        refine ⟨v1, ?_⟩
        rw [c1]
        refine br_f (fun e => absurd ((hrs.mp e).symm.trans z) (by decide)) (br_f (by decide) (hX1 _ (br_c (fun e => nm_r (nI_1 p) ?_) (fun e => nm_r (nI_1 p) ?_))))
        · rw [if_pos e] at q
          exact q
        · rw [if_neg e] at q
          exact q
      · rw [nn_kk] at h
        rw [wY_solve_134]
        refine ⟨vb, ?_⟩
        rw [cb, hlb]
        refine br_f ngt ?_
        rw [nn_m33, nI_add, c2]
        exact ⟨v2, br_f (by rw [z]; decide) (hY1 yec yep g _ (nm_r (nI_1 p) (hY yec yep post J x3 h)))⟩
theorem sv_out (hb : b < 4) (hC : C ≤ 32) (hde : nv_de fk pn pi) (hln : nv_ln L C ln) (hpg : nv_pg L pg) : ∀ (m k : Nat), k + m < 1950 → ∀ (so ed rc sn si sf tn ti tf : Nat → Int32), nr_mu so b < m → nr_S (b + 1) L so rc sn si sf → ∃ (so' ed' rc' sn' si' sf' tn' ti' tf' : Nat → Int32), nr_S (b + 1) L so' rc' sn' si' sf' ∧ (∀ j, j < b * 264 → so' j = so j) ∧ (∀ j, b * 33 + 33 ≤ j → rc' j = rc j) ∧ (∀ post : SX → Prop, post (cc, hc, md, sel, cs, ec, ep, ms, oc, fc, uc, fk, pn, pi, ln, pg, so', ed', he, fr, ou) → ∃ n, wX_solve_4 post (nI b) n 1 (nI k) cc hc md sel cs ec ep ms oc fc uc fk pn pi ln pg so ed he fr ou) ∧ (∀ (yec yep : Int32) (post : SY → Prop), post (cc, hc, md, sel, yec, yep, cs, ms, oc, uc, fc, 0, fk, pn, pi, ln, pg, rc', sn', si', sf', tn', ti', tf', he, ou, fr) → ∃ n, wY_solve_112 post (nI b) n (nI k) cc hc md sel yec yep cs ms oc uc fc 1 fk pn pi ln pg rc sn si sf tn ti tf he ou fr) := by
  intro m
  induction m with
  | zero =>
    intro k hk so ed rc sn si sf tn ti tf hmu
    omega
  | succ m ih =>
    intro k hk so ed rc sn si sf tn ti tf hmu hS
    obtain ⟨R, so1, ed1, rc1, sn1, si1, sf1, tn1, ti1, tf1, hg, hX, hY⟩ := sv_in (cc := cc) (hc := hc) (md := md) (sel := sel) (cs := cs) (ec := ec) (ep := ep) (ms := ms) (oc := oc) (fc := fc) (uc := uc) (he := he) (fr := fr) (ou := ou) hb hC hde hln hpg (L b) 0 (by omega) so ed rc sn si sf tn ti tf 0 hS
    have hS1 : nr_S (b + 1) L so1 rc1 sn1 si1 sf1 := fun b' hb' p' hp' => hg.2.1 _ (hS b' hb' p' hp')
    have nX : ¬ (1000000 : Int32) ≤ nI k := nI_ge (b := 1000000) (by omega) (by decide)
    have nY : ¬ (2000 : Int32) ≤ nI k := nI_ge (b := 2000) (by omega) (by decide)
    have nY1 : ¬ (2000 : Int32) ≤ nI (k + 1) := nI_ge (b := 2000) (by omega) (by decide)
    rcases hg.1 with z | z
    · rw [z] at hX hY
      refine ⟨so1, ed1, rc1, sn1, si1, sf1, tn1, ti1, tf1, hS1, hg.2.2.2.2.1, hg.2.2.2.2.2, fun post h => ⟨2, ?_⟩, fun yec yep post h => ⟨2, ?_⟩⟩
      · rw [wX_solve_4]
        refine br_f (by decide) (br_f nX ⟨L b + 1, hX post _ (nI k) ?_⟩)
        rw [if_pos rfl, wX_solve_4]
        exact br_t rfl h
      · rw [wY_solve_112]
        refine br_f nY (br_f (by decide) ⟨L b + 1, hY yec yep post _ (nI k) ?_⟩)
        rw [if_pos rfl, wY_solve_112, nI_1]
        exact br_f nY1 (br_t rfl h)
    · have hm := (nr_muG hg).2 z
      obtain ⟨so', ed', rc', sn', si', sf', tn', ti', tf', hS', hl, hr, hX', hY'⟩ := ih (k + 1) (by omega) so1 ed1 rc1 sn1 si1 sf1 tn1 ti1 tf1 (by omega) hS1
      rw [z] at hX hY
      refine ⟨so', ed', rc', sn', si', sf', tn', ti', tf', hS', fun j hj => (hl j hj).trans (hg.2.2.2.2.1 j hj), fun j hj => (hr j hj).trans (hg.2.2.2.2.2 j hj), fun post h => ?_, fun yec yep post h => ?_⟩
      · obtain ⟨n, hn⟩ := hX' post h
        refine ⟨n + 1, ?_⟩
        rw [wX_solve_4]
        refine br_f (by decide) (br_f nX ⟨L b + 1, hX post _ (nI k) ?_⟩)
        rw [if_neg (by decide), nI_1]
        exact hn
      · obtain ⟨n, hn⟩ := hY' yec yep post h
        refine ⟨n + 1, ?_⟩
        rw [wY_solve_112]
        refine br_f nY (br_f (by decide) ⟨L b + 1, hY yec yep post _ (nI k) ?_⟩)
        rw [if_neg (by decide), nI_1]
        exact hn
end
section
variable {cc hc md sel cs ec ep ms oc fc uc : Int32} {fk pn pi ln pg so ed he fr ou : Nat → Int32} {b : Nat} {L : Nat → Nat}
theorem xw_enter (hb : b < 4) (hlb : ln b = nI (L b)) (hl2 : L b ≤ 32) {post : SX → Prop} (h0 : b = 0 → post (cc, hc, md, sel, cs, ec, ep, ms, oc, fc, uc, fk, pn, pi, ln, pg, (na_fi (na_fi so (b * 264) ((L b + 1) * 8) (-1)) (b * 264) 8 1), ed, he, fr, ou)) (hK : b ≠ 0 → post (cc, hc, md, sel, cs, ec, ep, ms, oc, fc, uc, fk, pn, pi, ln, pg, (upd (upd (na_fi (na_fi so (b * 264) ((L b + 1) * 8) (-1)) (b * 264) 8 1) (b * 264) 2) (b * 264 + 1) (pn b + 2 * pi b)), ed, he, fr, ou)) : wpX_enter post (cc, hc, md, sel, cs, ec, ep, ms, oc, fc, uc, fk, pn, pi, ln, pg, so, ed, he, fr, ou) (nI b) := by
  have cb : (nI b).toNatClampNeg = b := nI_clamp (by omega)
  have vb : vp_in (nI b) 4 := vp_in_nI hb (by decide)
  have K2 : ∀ d i, i + d = 8 → wX_enter_46 post (nI b) (nI (b * 264)) cc hc md sel cs ec ep ms oc fc uc (d + 1) (nI i) fk pn pi ln pg (na_fi (na_fi so (b * 264) ((L b + 1) * 8) (-1)) (b * 264) i 1) ed he fr ou := by
    intro d
    induction d with
    | zero =>
      intro i hi
      obtain rfl : i = 8 := by omega
      rw [wX_enter_46]
      refine br_t (by decide) (br_c (fun e => h0 ?_) (fun e => ?_))
      · exact (nl_eq0 (by omega)).mp e
      · have k := hK (fun z => e ((nl_eq0 (by omega)).mpr z))
        rw [nn_a1, cb, nI_clamp (by omega), nI_clamp (by omega)]
        exact ⟨vp_in_nI (by omega) (by decide), nm_e ⟨vb, vb, vp_in_nI (by omega) (by decide), nm_e k⟩⟩
    | succ d ih =>
      intro i hi
      rw [wX_enter_46]
      refine br_f (nn_nge 8 (by omega) (by decide)) ⟨nn_inA (by omega) (by decide), nm_r ?_ (nm_r (nI_1 i) (ih (i + 1) (by omega)))⟩
      rw [nn_clA (by omega), na_fiS]
  have K1 : ∀ d i, i + d = (L b + 1) * 8 → wX_enter_21 post (nI b) (nI (b * 264)) (nI ((L b + 1) * 8)) cc hc md sel cs ec ep ms oc fc uc (d + 1) (nI i) fk pn pi ln pg (na_fi so (b * 264) i (-1)) ed he fr ou := by
    intro d
    induction d with
    | zero =>
      intro i hi
      obtain rfl : i = (L b + 1) * 8 := by omega
      rw [wX_enter_21]
      have q := K2 8 0 (by omega)
      rw [na_fi0] at q
      exact br_t (nI_le (Nat.le_refl _) (by omega)) ⟨9, q⟩
    | succ d ih =>
      intro i hi
      rw [wX_enter_21]
      refine br_f (nI_ge (by omega) (by omega)) ⟨nn_inA (by omega) (by decide), nm_r ?_ (nm_r (nI_1 i) (ih (i + 1) (by omega)))⟩
      rw [nn_clA (by omega), na_fiS]
  unfold wpX_enter wpX_stateAt
  rw [nn_s0]
  refine ⟨vb, nm_r (e' := nI ((L b + 1) * 8)) ?_ ⟨(L b + 1) * 8 + 1, ?_⟩⟩
  · rw [cb, hlb, nn_a1, nn_m8]
  · have q := K1 ((L b + 1) * 8) 0 (by omega)
    rw [na_fi0] at q
    exact q
end
section
variable {cc hc md sel yec yep cs ms oc uc fc ych : Int32} {fk pn pi ln pg rc sn si sf tn ti tf he ou fr : Nat → Int32} {b : Nat}
theorem yw_solve (hb : b < 4) {post : SY → Prop} (h0 : b = 0 → ∃ n, wY_solve_112 post (nI b) n 0 cc hc md sel yec yep cs ms oc uc fc 1 fk pn pi ln pg (upd rc (b * 33) 1) (na_fi sn (b * 264) 8 1) (na_fi si (b * 264) 8 0) (na_fi sf (b * 264) 8 0) tn ti tf he ou fr) (hK : b ≠ 0 → ∃ n, wY_solve_112 post (nI b) n 0 cc hc md sel yec yep cs ms oc uc fc 1 fk pn pi ln pg (upd rc (b * 33) 1) (upd (upd (na_fi sn (b * 264) 8 1) (b * 264) 0) (b * 264 + 1) (pn b)) (upd (upd (na_fi si (b * 264) 8 0) (b * 264) 1) (b * 264 + 1) (pi b)) (na_fi sf (b * 264) 8 0) tn ti tf he ou fr) : wpY_solve post (cc, hc, md, sel, yec, yep, cs, ms, oc, uc, fc, ych, fk, pn, pi, ln, pg, rc, sn, si, sf, tn, ti, tf, he, ou, fr) (nI b) := by
  have cb : (nI b).toNatClampNeg = b := nI_clamp (by omega)
  have vb : vp_in (nI b) 4 := vp_in_nI hb (by decide)
  have v0 : vp_in (nI (b * 264)) 1056 := vp_in_nI (by omega) (by decide)
  have v1 : vp_in (nI (b * 264 + 1)) 1056 := vp_in_nI (by omega) (by decide)
  have c0 : (nI (b * 264)).toNatClampNeg = b * 264 := nI_clamp (by omega)
  have c1 : (nI (b * 264 + 1)).toNatClampNeg = b * 264 + 1 := nI_clamp (by omega)
  have K : ∀ d i, i + d = 8 → wY_solve_20 post (nI b) (nI (b * 264)) cc hc md sel yec yep cs ms oc uc fc ych (d + 1) (nI i) fk pn pi ln pg (upd rc (b * 33) 1) (na_fi sn (b * 264) i 1) (na_fi si (b * 264) i 0) (na_fi sf (b * 264) i 0) tn ti tf he ou fr := by
    intro d
    induction d with
    | zero =>
      intro i hi
      obtain rfl : i = 8 := by omega
      rw [wY_solve_20]
      refine br_t (by decide) (br_c (fun e => h0 ?_) (fun e => ?_))
      · have := (nl_le0 (by omega)).mp e
        omega
      · have k := hK (fun z => e ((nl_le0 (by omega)).mpr (by omega)))
        rw [nn_a1, cb, c0, c1]
        exact ⟨v0, nm_e ⟨v0, nm_e ⟨vb, v1, nm_e ⟨vb, v1, nm_e k⟩⟩⟩⟩
    | succ d ih =>
      intro i hi
      rw [wY_solve_20]
      have v2 : vp_in (nI (b * 264) + nI i) 1056 := nn_inA (by omega) (by decide)
      refine br_f (nn_nge 8 (by omega) (by decide)) ?_
      rw [nn_clA (by omega)]
      exact ⟨v2, nm_r (na_fiS sn (b * 264) i 1).symm ⟨v2, nm_r (na_fiS si (b * 264) i 0).symm ⟨v2, nm_r (na_fiS sf (b * 264) i 0).symm (nm_r (nI_1 i) (ih (i + 1) (by omega)))⟩⟩⟩
  unfold wpY_solve
  refine nm_r (e' := nI (b * 264)) ?_ ?_
  · rw [nn_m33, nn_m8]
    exact congrArg nI (by omega)
  · rw [nn_m33, nI_clamp (by omega), nn_nb1]
    have q := K 8 0 (by omega)
    rw [na_fi0, na_fi0, na_fi0] at q
    exact ⟨vp_in_nI (by omega) (by decide), nm_e ⟨9, q⟩⟩
end
section
variable {cc hc md sel cs ec ep ms oc fc uc : Int32} {fk pn pi ln pg so ed he fr ou rc sn si sf tn ti tf : Nat → Int32} {b C : Nat} {L : Nat → Nat}
theorem sv_both (hb : b < 4) (hC : C ≤ 32) (hde : nv_de fk pn pi) (hln : nv_ln L C ln) (hpg : nv_pg L pg) (hS : nr_S b L so rc sn si sf) (hz : ∀ j, b * 33 ≤ j → j < 132 → rc j = 0) : ∃ (so1 so' ed' rc' sn' si' sf' tn' ti' tf' : Nat → Int32), nr_S (b + 1) L so' rc' sn' si' sf' ∧ (∀ j, j < b * 264 → so' j = so j) ∧ (∀ j, b * 33 + 33 ≤ j → j < 132 → rc' j = 0) ∧ (∀ post : SX → Prop, post (cc, hc, md, sel, cs, ec, ep, ms, oc, fc, uc, fk, pn, pi, ln, pg, so1, ed, he, fr, ou) → wpX_enter post (cc, hc, md, sel, cs, ec, ep, ms, oc, fc, uc, fk, pn, pi, ln, pg, so, ed, he, fr, ou) (nI b)) ∧ (∀ post : SX → Prop, post (cc, hc, md, sel, cs, ec, ep, ms, oc, fc, uc, fk, pn, pi, ln, pg, so', ed', he, fr, ou) → wpX_solve post (cc, hc, md, sel, cs, ec, ep, ms, oc, fc, uc, fk, pn, pi, ln, pg, so1, ed, he, fr, ou) (nI b)) ∧ (∀ (yec yep ych : Int32) (post : SY → Prop), post (cc, hc, md, sel, yec, yep, cs, ms, oc, uc, fc, 0, fk, pn, pi, ln, pg, rc', sn', si', sf', tn', ti', tf', he, ou, fr) → wpY_solve post (cc, hc, md, sel, yec, yep, cs, ms, oc, uc, fc, ych, fk, pn, pi, ln, pg, rc, sn, si, sf, tn, ti, tf, he, ou, fr) (nI b)) := by
  have hL : ∀ j, j < 4 → L j ≤ 32 := fun j hj => by
    have := (hln j hj).2
    omega
  obtain ⟨hlb, hl2⟩ := hln b hb
  obtain ⟨so1, sn1, si1, sf1, hS1, hlow, hXe, hYe⟩ : ∃ (so1 sn1 si1 sf1 : Nat → Int32), nr_S (b + 1) L so1 (upd rc (b * 33) 1) sn1 si1 sf1 ∧ (∀ j, j < b * 264 → so1 j = so j) ∧ (∀ post : SX → Prop, post (cc, hc, md, sel, cs, ec, ep, ms, oc, fc, uc, fk, pn, pi, ln, pg, so1, ed, he, fr, ou) → wpX_enter post (cc, hc, md, sel, cs, ec, ep, ms, oc, fc, uc, fk, pn, pi, ln, pg, so, ed, he, fr, ou) (nI b)) ∧ (∀ (yec yep ych : Int32) (post : SY → Prop), (∃ n, wY_solve_112 post (nI b) n 0 cc hc md sel yec yep cs ms oc uc fc 1 fk pn pi ln pg (upd rc (b * 33) 1) sn1 si1 sf1 tn ti tf he ou fr) → wpY_solve post (cc, hc, md, sel, yec, yep, cs, ms, oc, uc, fc, ych, fk, pn, pi, ln, pg, rc, sn, si, sf, tn, ti, tf, he, ou, fr) (nI b)) := by
    by_cases e : b = 0
    · subst e
      refine ⟨_, _, _, _, nr_ent0 (so := so) (sn := sn) (si := si) (sf := sf) hL (fun j h1 h2 => hz j (by omega) h2), fun j hj => absurd hj (by omega), fun post h => xw_enter hb hlb (by omega) (fun _ => h) (fun z => absurd rfl z), fun yec yep ych post h => yw_solve hb (fun _ => h) (fun z => absurd rfl z)⟩
    · refine ⟨_, _, _, _, nr_entK (n := pn b) (i := pi b) hS hL hb (fun j h1 h2 => hz j (by omega) h2) (hde.2.1 b hb) (hde.2.2 b hb), fun j hj => ?_, fun post h => xw_enter hb hlb (by omega) (fun z => absurd z e) (fun _ => h), fun yec yep ych post h => yw_solve hb (fun z => absurd z e) (fun _ => h)⟩
      rw [pk_un (by omega), pk_un (by omega), na_fiO (by omega), na_fiO (by omega)]
  obtain ⟨so', ed', rc', sn', si', sf', tn', ti', tf', hS', hl, hr, hX', hY'⟩ := sv_out (cc := cc) (hc := hc) (md := md) (sel := sel) (cs := cs) (ec := ec) (ep := ep) (ms := ms) (oc := oc) (fc := fc) (uc := uc) (he := he) (fr := fr) (ou := ou) hb hC hde hln hpg 1849 0 (by omega) so1 ed (upd rc (b * 33) 1) sn1 si1 sf1 tn ti tf (by have := nr_muB so1 b; omega) hS1
  refine ⟨so1, so', ed', rc', sn', si', sf', tn', ti', tf', hS', fun j hj => (hl j hj).trans (hlow j hj), fun j h1 h2 => ?_, hXe, fun post h => ?_, fun yec yep ych post h => ?_⟩
  · rw [hr j h1, pk_un (by omega)]
    exact hz j (by omega) h2
  · unfold wpX_solve
    exact hX' post h
  · exact hYe yec yep ych post (hY' yec yep post h)
end
end
section
/-! errors, both sides at once -/
section
variable {cc hc md sel cs ec ep ms oc fc uc : Int32} {fk pn pi ln pg so ed he fr ou rc sn si sf tn ti tf : Nat → Int32} {b p : Nat} {o A B K : Nat}
theorem er_2 (hb : b < 4) (hp : p < 33) (hB : B < 4) (hK : K < 8) (hcell : ∀ l, l < 8 → ∃ c, nc_cr (so (((b * 33 + p) * 8) + l)) (sn (((b * 33 + p) * 8) + l)) (si (((b * 33 + p) * 8) + l)) (sf (((b * 33 + p) * 8) + l)) c) : ∃ e : Int32, (∀ post : Int32 → Prop, post e → wX_errorAt_103 post (nI ((b * 33 + p) * 8)) (nI 2) (nI A) (nI B) (nI K) cc hc md sel cs ec ep ms oc fc uc fk pn pi ln pg so ed he fr ou) ∧ (∀ (yec yep ych : Int32) (post : Int32 → Prop), post e → wY_rule_76 post (nI 2) (nI A) (nI B) (nI K) (nI ((b * 33 + p) * 8)) cc hc md sel yec yep cs ms oc uc fc ych fk pn pi ln pg rc sn si sf tn ti tf he ou fr) := by
  obtain ⟨c, hcx⟩ := hcell K hK
  have hN := (ne_nu hcx).1
  have hI := (ne_ini hcx).1
  have vK : vp_in (nI ((b * 33 + p) * 8) + nI K) 1056 := nn_inA (by omega) (by decide)
  have xK : (nI ((b * 33 + p) * 8) + nI K).toNatClampNeg = ((b * 33 + p) * 8) + K := nn_clA (by omega)
  have vB : vp_in (nI B) 4 := vp_in_nI hB (by decide)
  have cB : (nI B).toNatClampNeg = B := nI_clamp (by omega)
  by_cases h1 : pn B = 0
  · by_cases h2 : sn (((b * 33 + p) * 8) + K) = 1
    · exact ⟨2, fun post h => by
        unfold wX_errorAt_103
        refine br_f (by decide) (br_f (by decide) (br_t (by decide) ⟨vK, ?_⟩))
        unfold wpX_newError wpX_nullnessOf wX_newError_19 wpX_initOf
        rw [xK, cB, hN, hI]
        simp [vB, vK, h1, h2, h], fun yec yep ych post h => by
        unfold wY_rule_76
        refine br_t (by decide) ?_
        unfold wY_rule_108
        rw [xK, cB]
        simp [vB, vK, h1, h2, h]⟩
    · by_cases h3 : pi B = 2
      · exact ⟨0, fun post h => by
          unfold wX_errorAt_103
          refine br_f (by decide) (br_f (by decide) (br_t (by decide) ⟨vK, ?_⟩))
          unfold wpX_newError wpX_nullnessOf wX_newError_19 wpX_initOf
          rw [xK, cB, hN, hI]
          simp [vB, vK, h1, h2, h3, h], fun yec yep ych post h => by
          unfold wY_rule_76
          refine br_t (by decide) ?_
          unfold wY_rule_108
          rw [xK, cB]
          simp [vB, vK, h1, h2, h3, h]⟩
      · by_cases h4 : si (((b * 33 + p) * 8) + K) = pi B
        · exact ⟨0, fun post h => by
            unfold wX_errorAt_103
            refine br_f (by decide) (br_f (by decide) (br_t (by decide) ⟨vK, ?_⟩))
            unfold wpX_newError wpX_nullnessOf wX_newError_19 wpX_initOf
            rw [xK, cB, hN, hI]
            simp [vB, vK, h1, h2, h3, h4, h], fun yec yep ych post h => by
            unfold wY_rule_76
            refine br_t (by decide) ?_
            unfold wY_rule_108
            rw [xK, cB]
            simp [vB, vK, h1, h2, h3, h4, h]⟩
        · exact ⟨3, fun post h => by
            unfold wX_errorAt_103
            refine br_f (by decide) (br_f (by decide) (br_t (by decide) ⟨vK, ?_⟩))
            unfold wpX_newError wpX_nullnessOf wX_newError_19 wpX_initOf
            rw [xK, cB, hN, hI]
            simp [vB, vK, h1, h2, h3, h4, h], fun yec yep ych post h => by
            unfold wY_rule_76
            refine br_t (by decide) ?_
            unfold wY_rule_108
            rw [xK, cB]
            simp [vB, vK, h1, h2, h3, h4, h]⟩
  · by_cases h3 : pi B = 2
    · exact ⟨0, fun post h => by
        unfold wX_errorAt_103
        refine br_f (by decide) (br_f (by decide) (br_t (by decide) ⟨vK, ?_⟩))
        unfold wpX_newError wpX_nullnessOf wX_newError_19 wpX_initOf
        rw [xK, cB, hN, hI]
        simp [vB, vK, h1, h3, h], fun yec yep ych post h => by
        unfold wY_rule_76
        refine br_t (by decide) ?_
        unfold wY_rule_108
        rw [xK, cB]
        simp [vB, vK, h1, h3, h]⟩
    · by_cases h4 : si (((b * 33 + p) * 8) + K) = pi B
      · exact ⟨0, fun post h => by
          unfold wX_errorAt_103
          refine br_f (by decide) (br_f (by decide) (br_t (by decide) ⟨vK, ?_⟩))
          unfold wpX_newError wpX_nullnessOf wX_newError_19 wpX_initOf
          rw [xK, cB, hN, hI]
          simp [vB, vK, h1, h3, h4, h], fun yec yep ych post h => by
          unfold wY_rule_76
          refine br_t (by decide) ?_
          unfold wY_rule_108
          rw [xK, cB]
          simp [vB, vK, h1, h3, h4, h]⟩
      · exact ⟨3, fun post h => by
          unfold wX_errorAt_103
          refine br_f (by decide) (br_f (by decide) (br_t (by decide) ⟨vK, ?_⟩))
          unfold wpX_newError wpX_nullnessOf wX_newError_19 wpX_initOf
          rw [xK, cB, hN, hI]
          simp [vB, vK, h1, h3, h4, h], fun yec yep ych post h => by
          unfold wY_rule_76
          refine br_t (by decide) ?_
          unfold wY_rule_108
          rw [xK, cB]
          simp [vB, vK, h1, h3, h4, h]⟩
theorem er_3 (hb : b < 4) (hp : p < 33) (hB : B < 8) (hK : K < 4) (hcell : ∀ l, l < 8 → ∃ c, nc_cr (so (((b * 33 + p) * 8) + l)) (sn (((b * 33 + p) * 8) + l)) (si (((b * 33 + p) * 8) + l)) (sf (((b * 33 + p) * 8) + l)) c) : ∃ e : Int32, (∀ post : Int32 → Prop, post e → wX_errorAt_103 post (nI ((b * 33 + p) * 8)) (nI 3) (nI A) (nI B) (nI K) cc hc md sel cs ec ep ms oc fc uc fk pn pi ln pg so ed he fr ou) ∧ (∀ (yec yep ych : Int32) (post : Int32 → Prop), post e → wY_rule_76 post (nI 3) (nI A) (nI B) (nI K) (nI ((b * 33 + p) * 8)) cc hc md sel yec yep cs ms oc uc fc ych fk pn pi ln pg rc sn si sf tn ti tf he ou fr) := by
  obtain ⟨c, hcx⟩ := hcell B hB
  have hN := (ne_nu hcx).1
  have hI := (ne_ini hcx).1
  have hQ := ne_kn hK hcx
  have vB : vp_in (nI ((b * 33 + p) * 8) + nI B) 1056 := nn_inA (by omega) (by decide)
  have xB : (nI ((b * 33 + p) * 8) + nI B).toNatClampNeg = ((b * 33 + p) * 8) + B := nn_clA (by omega)
  have vK : vp_in (nI K) 4 := vp_in_nI hK (by decide)
  have cK : (nI K).toNatClampNeg = K := nI_clamp (by omega)
  by_cases h1 : sn (((b * 33 + p) * 8) + B) = 1
  · exact ⟨4, fun post h => by
      unfold wX_errorAt_103
      refine br_f (by decide) (br_f (by decide) (br_f (by decide) (br_t (by decide) ⟨vB, ?_⟩)))
      unfold wpX_getError wpX_nullnessOf wpX_initOf wpX_knows
      rw [xB, cK, hN, hI]
      simp [hQ, vB, vK, h1, h], fun yec yep ych post h => by
      unfold wY_rule_76
      refine br_f (by decide) (br_t (by decide) ?_)
      rw [xB, cK]
      simp [hQ, vB, vK, h1, h]⟩
  · by_cases h2 : fk K = 0
    · by_cases h3 : si (((b * 33 + p) * 8) + B) = 0
      · exact ⟨0, fun post h => by
          unfold wX_errorAt_103
          refine br_f (by decide) (br_f (by decide) (br_f (by decide) (br_t (by decide) ⟨vB, ?_⟩)))
          unfold wpX_getError wpX_nullnessOf wpX_initOf wpX_knows
          rw [xB, cK, hN, hI]
          simp [hQ, vB, vK, h1, h2, h3, h], fun yec yep ych post h => by
          unfold wY_rule_76
          refine br_f (by decide) (br_t (by decide) ?_)
          rw [xB, cK]
          simp [hQ, vB, vK, h1, h2, h3, h]⟩
      · by_cases h4 : ((sf (((b * 33 + p) * 8) + B) >>> (nI K &&& 31)) &&& 1) = 0
        · exact ⟨5, fun post h => by
            unfold wX_errorAt_103
            refine br_f (by decide) (br_f (by decide) (br_f (by decide) (br_t (by decide) ⟨vB, ?_⟩)))
            unfold wpX_getError wpX_nullnessOf wpX_initOf wpX_knows
            rw [xB, cK, hN, hI]
            simp [hQ, vB, vK, h1, h2, h3, h4, h], fun yec yep ych post h => by
            unfold wY_rule_76
            refine br_f (by decide) (br_t (by decide) ?_)
            rw [xB, cK]
            simp [hQ, vB, vK, h1, h2, h3, h4, h]⟩
        · exact ⟨0, fun post h => by
            unfold wX_errorAt_103
            refine br_f (by decide) (br_f (by decide) (br_f (by decide) (br_t (by decide) ⟨vB, ?_⟩)))
            unfold wpX_getError wpX_nullnessOf wpX_initOf wpX_knows
            rw [xB, cK, hN, hI]
            simp [hQ, vB, vK, h1, h2, h3, h4, h], fun yec yep ych post h => by
            unfold wY_rule_76
            refine br_f (by decide) (br_t (by decide) ?_)
            rw [xB, cK]
            simp [hQ, vB, vK, h1, h2, h3, h4, h]⟩
    · exact ⟨0, fun post h => by
        unfold wX_errorAt_103
        refine br_f (by decide) (br_f (by decide) (br_f (by decide) (br_t (by decide) ⟨vB, ?_⟩)))
        unfold wpX_getError wpX_nullnessOf wpX_initOf wpX_knows
        rw [xB, cK, hN, hI]
        simp [hQ, vB, vK, h1, h2, h], fun yec yep ych post h => by
        unfold wY_rule_76
        refine br_f (by decide) (br_t (by decide) ?_)
        rw [xB, cK]
        simp [hQ, vB, vK, h1, h2, h]⟩
theorem er_4 (hb : b < 4) (hp : p < 33) (hA : A < 8) (hB : B < 4) (hK : K < 8) (hcell : ∀ l, l < 8 → ∃ c, nc_cr (so (((b * 33 + p) * 8) + l)) (sn (((b * 33 + p) * 8) + l)) (si (((b * 33 + p) * 8) + l)) (sf (((b * 33 + p) * 8) + l)) c) : ∃ e : Int32, (∀ post : Int32 → Prop, post e → wX_errorAt_103 post (nI ((b * 33 + p) * 8)) (nI 4) (nI A) (nI B) (nI K) cc hc md sel cs ec ep ms oc fc uc fk pn pi ln pg so ed he fr ou) ∧ (∀ (yec yep ych : Int32) (post : Int32 → Prop), post e → wY_rule_76 post (nI 4) (nI A) (nI B) (nI K) (nI ((b * 33 + p) * 8)) cc hc md sel yec yep cs ms oc uc fc ych fk pn pi ln pg rc sn si sf tn ti tf he ou fr) := by
  obtain ⟨c, hcx⟩ := hcell A hA
  obtain ⟨c2, hcy⟩ := hcell K hK
  have hN := (ne_nu hcx).1
  have hI := (ne_ini hcx).1
  have hN2 := (ne_nu hcy).1
  have hI2 := (ne_ini hcy).1
  have vA : vp_in (nI ((b * 33 + p) * 8) + nI A) 1056 := nn_inA (by omega) (by decide)
  have xA : (nI ((b * 33 + p) * 8) + nI A).toNatClampNeg = ((b * 33 + p) * 8) + A := nn_clA (by omega)
  have vK : vp_in (nI ((b * 33 + p) * 8) + nI K) 1056 := nn_inA (by omega) (by decide)
  have xK : (nI ((b * 33 + p) * 8) + nI K).toNatClampNeg = ((b * 33 + p) * 8) + K := nn_clA (by omega)
  have vB : vp_in (nI B) 4 := vp_in_nI hB (by decide)
  have cB : (nI B).toNatClampNeg = B := nI_clamp (by omega)
  by_cases h1 : sn (((b * 33 + p) * 8) + A) = 1
  · exact ⟨4, fun post h => by
      unfold wX_errorAt_103
      refine br_f (by decide) (br_f (by decide) (br_f (by decide) (br_f (by decide) (br_t (by decide) ⟨vA, vK, ?_⟩))))
      unfold wpX_putError wX_putError_30 wpX_nullnessOf wpX_initOf
      rw [xA, xK, cB, hN, hI, hN2, hI2]
      simp [vA, vB, vK, h1, h], fun yec yep ych post h => by
      unfold wY_rule_76
      refine br_f (by decide) (br_f (by decide) (br_t (by decide) ?_))
      unfold wY_rule_255
      rw [xA, xK, cB]
      simp [vA, vB, vK, h1, h]⟩
  · by_cases h2 : fk B = 0
    · by_cases h3 : sn (((b * 33 + p) * 8) + K) = 1
      · exact ⟨6, fun post h => by
          unfold wX_errorAt_103
          refine br_f (by decide) (br_f (by decide) (br_f (by decide) (br_f (by decide) (br_t (by decide) ⟨vA, vK, ?_⟩))))
          unfold wpX_putError wX_putError_30 wpX_nullnessOf wpX_initOf
          rw [xA, xK, cB, hN, hI, hN2, hI2]
          simp [vA, vB, vK, h1, h2, h3, h], fun yec yep ych post h => by
          unfold wY_rule_76
          refine br_f (by decide) (br_f (by decide) (br_t (by decide) ?_))
          unfold wY_rule_255
          rw [xA, xK, cB]
          simp [vA, vB, vK, h1, h2, h3, h]⟩
      · by_cases h4 : si (((b * 33 + p) * 8) + A) = 1
        · exact ⟨0, fun post h => by
            unfold wX_errorAt_103
            refine br_f (by decide) (br_f (by decide) (br_f (by decide) (br_f (by decide) (br_t (by decide) ⟨vA, vK, ?_⟩))))
            unfold wpX_putError wX_putError_30 wpX_nullnessOf wpX_initOf
            rw [xA, xK, cB, hN, hI, hN2, hI2]
            simp [vA, vB, vK, h1, h2, h3, h4, h], fun yec yep ych post h => by
            unfold wY_rule_76
            refine br_f (by decide) (br_f (by decide) (br_t (by decide) ?_))
            unfold wY_rule_255
            rw [xA, xK, cB]
            simp [vA, vB, vK, h1, h2, h3, h4, h]⟩
        · by_cases h5 : si (((b * 33 + p) * 8) + K) = 0
          · exact ⟨0, fun post h => by
              unfold wX_errorAt_103
              refine br_f (by decide) (br_f (by decide) (br_f (by decide) (br_f (by decide) (br_t (by decide) ⟨vA, vK, ?_⟩))))
              unfold wpX_putError wX_putError_30 wpX_nullnessOf wpX_initOf
              rw [xA, xK, cB, hN, hI, hN2, hI2]
              simp [vA, vB, vK, h1, h2, h3, h4, h5, h], fun yec yep ych post h => by
              unfold wY_rule_76
              refine br_f (by decide) (br_f (by decide) (br_t (by decide) ?_))
              unfold wY_rule_255
              rw [xA, xK, cB]
              simp [vA, vB, vK, h1, h2, h3, h4, h5, h]⟩
          · exact ⟨7, fun post h => by
              unfold wX_errorAt_103
              refine br_f (by decide) (br_f (by decide) (br_f (by decide) (br_f (by decide) (br_t (by decide) ⟨vA, vK, ?_⟩))))
              unfold wpX_putError wX_putError_30 wpX_nullnessOf wpX_initOf
              rw [xA, xK, cB, hN, hI, hN2, hI2]
              simp [vA, vB, vK, h1, h2, h3, h4, h5, h], fun yec yep ych post h => by
              unfold wY_rule_76
              refine br_f (by decide) (br_f (by decide) (br_t (by decide) ?_))
              unfold wY_rule_255
              rw [xA, xK, cB]
              simp [vA, vB, vK, h1, h2, h3, h4, h5, h]⟩
    · by_cases h4 : si (((b * 33 + p) * 8) + A) = 1
      · exact ⟨0, fun post h => by
          unfold wX_errorAt_103
          refine br_f (by decide) (br_f (by decide) (br_f (by decide) (br_f (by decide) (br_t (by decide) ⟨vA, vK, ?_⟩))))
          unfold wpX_putError wX_putError_30 wpX_nullnessOf wpX_initOf
          rw [xA, xK, cB, hN, hI, hN2, hI2]
          simp [vA, vB, vK, h1, h2, h4, h], fun yec yep ych post h => by
          unfold wY_rule_76
          refine br_f (by decide) (br_f (by decide) (br_t (by decide) ?_))
          unfold wY_rule_255
          rw [xA, xK, cB]
          simp [vA, vB, vK, h1, h2, h4, h]⟩
      · by_cases h5 : si (((b * 33 + p) * 8) + K) = 0
        · exact ⟨0, fun post h => by
            unfold wX_errorAt_103
            refine br_f (by decide) (br_f (by decide) (br_f (by decide) (br_f (by decide) (br_t (by decide) ⟨vA, vK, ?_⟩))))
            unfold wpX_putError wX_putError_30 wpX_nullnessOf wpX_initOf
            rw [xA, xK, cB, hN, hI, hN2, hI2]
            simp [vA, vB, vK, h1, h2, h4, h5, h], fun yec yep ych post h => by
            unfold wY_rule_76
            refine br_f (by decide) (br_f (by decide) (br_t (by decide) ?_))
            unfold wY_rule_255
            rw [xA, xK, cB]
            simp [vA, vB, vK, h1, h2, h4, h5, h]⟩
        · exact ⟨7, fun post h => by
            unfold wX_errorAt_103
            refine br_f (by decide) (br_f (by decide) (br_f (by decide) (br_f (by decide) (br_t (by decide) ⟨vA, vK, ?_⟩))))
            unfold wpX_putError wX_putError_30 wpX_nullnessOf wpX_initOf
            rw [xA, xK, cB, hN, hI, hN2, hI2]
            simp [vA, vB, vK, h1, h2, h4, h5, h], fun yec yep ych post h => by
            unfold wY_rule_76
            refine br_f (by decide) (br_f (by decide) (br_t (by decide) ?_))
            unfold wY_rule_255
            rw [xA, xK, cB]
            simp [vA, vB, vK, h1, h2, h4, h5, h]⟩
theorem er_o (ho : o < 2 ∨ 4 < o) (ho2 : o < 10) : (∀ post : Int32 → Prop, post 0 → wX_errorAt_103 post (nI ((b * 33 + p) * 8)) (nI o) (nI A) (nI B) (nI K) cc hc md sel cs ec ep ms oc fc uc fk pn pi ln pg so ed he fr ou) ∧ (∀ (yec yep ych : Int32) (post : Int32 → Prop), post 0 → wY_rule_76 post (nI o) (nI A) (nI B) (nI K) (nI ((b * 33 + p) * 8)) cc hc md sel yec yep cs ms oc uc fc ych fk pn pi ln pg rc sn si sf tn ti tf he ou fr) := by
  refine ⟨fun post h => ?_, fun yec yep ych post h => ?_⟩
  · unfold wX_errorAt_103
    rcases ho with z | z
    · exact br_t ((nl_lt2 (by omega)).mpr z) h
    · exact br_f (fun q => by have := (nl_lt2 (by omega)).mp q; omega) (br_t ((nl_gt4 (by omega)).mpr z) h)
  · unfold wY_rule_76
    exact br_f (fun q => by have := (nl_eq2 (by omega)).mp q; omega) (br_f (fun q => by have := (nl_eq3 (by omega)).mp q; omega) (br_f (fun q => by have := (nl_eq4 (by omega)).mp q; omega) h))
theorem er_all (hb : b < 4) (hp : p < 33) (hi : nv_in o A B K) (hcell : ∀ l, l < 8 → ∃ c, nc_cr (so (((b * 33 + p) * 8) + l)) (sn (((b * 33 + p) * 8) + l)) (si (((b * 33 + p) * 8) + l)) (sf (((b * 33 + p) * 8) + l)) c) : ∃ e : Int32, (∀ post : Int32 → Prop, post e → wX_errorAt_103 post (nI ((b * 33 + p) * 8)) (nI o) (nI A) (nI B) (nI K) cc hc md sel cs ec ep ms oc fc uc fk pn pi ln pg so ed he fr ou) ∧ (∀ (yec yep ych : Int32) (post : Int32 → Prop), post e → wY_rule_76 post (nI o) (nI A) (nI B) (nI K) (nI ((b * 33 + p) * 8)) cc hc md sel yec yep cs ms oc uc fc ych fk pn pi ln pg rc sn si sf tn ti tf he ou fr) := by
  obtain ⟨i1, i2, i3, i4, i5, i6, i7, i8, i9⟩ := hi
  by_cases z2 : o = 2
  · subst z2
    exact er_2 hb hp (i7 rfl).2 i4 hcell
  · by_cases z3 : o = 3
    · subst z3
      exact er_3 hb hp (i6 (by omega)) (i9 rfl) hcell
    · by_cases z4 : o = 4
      · subst z4
        exact er_4 hb hp (i5 (by omega)) (i8 rfl) i4 hcell
      · exact ⟨0, er_o (by omega) i1⟩
theorem er_both {L : Nat → Nat} (hb : b < 4) (hlb : ln b = nI (L b)) (hl2 : L b ≤ 32) (hpg : nv_pg L pg) (hp : p < L b) (hq : nr_pt so rc sn si sf (b * 33 + p)) (h1 : rc (b * 33 + p) = 1) : ∃ e : Int32, (∀ post : Int32 → Prop, post e → wpX_errorAt post (cc, hc, md, sel, cs, ec, ep, ms, oc, fc, uc, fk, pn, pi, ln, pg, so, ed, he, fr, ou) (nI b) (nI p)) ∧ (∀ (yec yep ych : Int32) (post : Int32 → Prop), post e → wpY_rule post (cc, hc, md, sel, yec, yep, cs, ms, oc, uc, fc, ych, fk, pn, pi, ln, pg, rc, sn, si, sf, tn, ti, tf, he, ou, fr) (nI b) (nI p)) := by
  obtain ⟨o, A, B, K, eo, ea, eB, eK, hi⟩ := hpg b hb p hp
  have hcell : ∀ l, l < 8 → ∃ c, nc_cr (so (((b * 33 + p) * 8) + l)) (sn (((b * 33 + p) * 8) + l)) (si (((b * 33 + p) * 8) + l)) (sf (((b * 33 + p) * 8) + l)) c := by
    rcases hq with ⟨h2, _⟩ | ⟨_, h3⟩
    · rw [h1] at h2
      exact absurd h2 (by decide)
    · exact h3
  have i1 := hi.1
  have i2 := hi.2.1
  obtain ⟨e, hX, hY⟩ := er_all (cc := cc) (hc := hc) (md := md) (sel := sel) (cs := cs) (ec := ec) (ep := ep) (ms := ms) (oc := oc) (fc := fc) (uc := uc) (fk := fk) (pn := pn) (pi := pi) (ln := ln) (pg := pg) (ed := ed) (he := he) (fr := fr) (ou := ou) (rc := rc) (tn := tn) (ti := ti) (tf := tf) hb (by omega) hi hcell
  have cb : (nI b).toNatClampNeg = b := nI_clamp (by omega)
  have vb : vp_in (nI b) 4 := vp_in_nI hb (by decide)
  have nl : ¬ nI p = nI (L b) := fun z => by
    have := (nI_eq (by omega) (by omega)).mp z
    omega
  have X0 : ∀ post : Int32 → Prop, (wpX_errorAt post (cc, hc, md, sel, cs, ec, ep, ms, oc, fc, uc, fk, pn, pi, ln, pg, so, ed, he, fr, ou) (nI b) (nI p)) ↔ ((nI b = 0 → wX_errorAt_103 post (nI ((b * 33 + p) * 8)) (nI o) (nI A) (nI B) (nI K) cc hc md sel cs ec ep ms oc fc uc fk pn pi ln pg so ed he fr ou) ∧ (¬ nI b = 0 → ((nI A = 0 → wpX_assignsLocal (fun r_90 => (((r_90 = 0 → (wX_errorAt_103 post (nI ((b * 33 + p) * 8)) (nI o) (nI A) (nI B) (nI K) cc hc md sel cs ec ep ms oc fc uc fk pn pi ln pg so ed he fr ou)) ∧ (¬ r_90 = 0 → (post 1))))) (nI o)) ∧ (¬ nI A = 0 → wX_errorAt_103 post (nI ((b * 33 + p) * 8)) (nI o) (nI A) (nI B) (nI K) cc hc md sel cs ec ep ms oc fc uc fk pn pi ln pg so ed he fr ou)))) := by
    intro post
    unfold wpX_errorAt wpX_stateAt wpX_codeAt
    simp (disch := omega) only [nn_st, nn_ct, cb, hlb, nl, vb, nn_a1, nn_a2, nn_a3, nn_in, nI_clamp, eo, ea, eB, eK, forall_eq, true_and, false_implies, not_false_eq_true, true_implies]
  have Y0 : ∀ (yec yep ych : Int32) (post : Int32 → Prop), (wpY_rule post (cc, hc, md, sel, yec, yep, cs, ms, oc, uc, fc, ych, fk, pn, pi, ln, pg, rc, sn, si, sf, tn, ti, tf, he, ou, fr) (nI b) (nI p)) ↔ ((nI b < 1 → wY_rule_76 post (nI o) (nI A) (nI B) (nI K) (nI ((b * 33 + p) * 8)) cc hc md sel yec yep cs ms oc uc fc ych fk pn pi ln pg rc sn si sf tn ti tf he ou fr) ∧ (¬ nI b < 1 → ((3 < nI o → wY_rule_76 post (nI o) (nI A) (nI B) (nI K) (nI ((b * 33 + p) * 8)) cc hc md sel yec yep cs ms oc uc fc ych fk pn pi ln pg rc sn si sf tn ti tf he ou fr) ∧ (¬ 3 < nI o → ((nI A = 0 → post 1) ∧ (¬ nI A = 0 → wY_rule_76 post (nI o) (nI A) (nI B) (nI K) (nI ((b * 33 + p) * 8)) cc hc md sel yec yep cs ms oc uc fc ych fk pn pi ln pg rc sn si sf tn ti tf he ou fr)))))) := by
    intro yec yep ych post
    unfold wpY_rule
    simp (disch := omega) only [nn_st, nn_ct, nn_a1, nn_a2, nn_a3, nn_in, nI_clamp, eo, ea, eB, eK, forall_eq, true_and]
  by_cases hd : 0 < b ∧ o ≤ 3 ∧ A = 0
  · obtain ⟨d1, d2, d3⟩ := hd
    refine ⟨1, fun post h => ?_, fun yec yep ych post h => ?_⟩
    · rw [X0]
      refine br_f (nI_ne0 d1 (by omega)) (br_t ((nl_eq0 (by omega)).mpr d3) ?_)
      have ho : o = 0 ∨ o = 1 ∨ o = 2 ∨ o = 3 := by omega
      unfold wpX_assignsLocal
      rcases ho with rfl | rfl | rfl | rfl
      · exact br_t (by decide) (br_f (by decide) h)
      · exact br_f (by decide) (br_t (by decide) (br_f (by decide) h))
      · exact br_f (by decide) (br_f (by decide) (br_t (by decide) (br_f (by decide) h)))
      · exact br_f (by decide) (br_f (by decide) (br_f (by decide) (br_t (by decide) (br_f (by decide) h))))
    · rw [Y0]
      exact br_f (fun q => by have := (nl_lt1 (by omega)).mp q; omega) (br_f (fun q => by have := (nl_gt3 (by omega)).mp q; omega) (br_t ((nl_eq0 (by omega)).mpr d3) h))
  · refine ⟨e, fun post h => ?_, fun yec yep ych post h => ?_⟩
    · have q := hX post h
      rw [X0]
      refine br_c (fun _ => q) (fun z1 => br_c (fun z2 => ?_) (fun _ => q))
      have z3 := (nl_eq0 (by omega)).mp z2
      have z4 : b ≠ 0 := fun z => z1 ((nl_eq0 (by omega)).mpr z)
      have z5 : 3 < o := by
        by_cases z6 : o ≤ 3
        · exact absurd ⟨by omega, z6, z3⟩ hd
        · omega
      unfold wpX_assignsLocal
      exact br_f (fun q => by have := (nl_eq0 (by omega)).mp q; omega) (br_f (fun q => by have := (nl_eq1 (by omega)).mp q; omega) (br_f (fun q => by have := (nl_eq2 (by omega)).mp q; omega) (br_f (fun q => by have := (nl_eq3 (by omega)).mp q; omega) (br_t rfl q))))
    · have q := hY yec yep ych post h
      rw [Y0]
      refine br_c (fun _ => q) (fun z1 => br_c (fun _ => q) (fun z5 => br_c (fun z2 => ?_) (fun _ => q)))
      have z3 := (nl_eq0 (by omega)).mp z2
      have z4 : ¬ b < 1 := fun z => z1 ((nl_lt1 (by omega)).mpr z)
      have z6 : ¬ 3 < o := fun z => z5 ((nl_gt3 (by omega)).mpr z)
      exact absurd ⟨by omega, by omega, z3⟩ hd
theorem xw_end {c : Nat} (hcc : c < 128) {post : Int32 → Prop} (h0 : (∀ f, f < 4 → (fk f = 0 → c / 8 / 2 ^ f % 2 ≠ 0)) → post 0) (h8 : ¬ (∀ f, f < 4 → (fk f = 0 → c / 8 / 2 ^ f % 2 ≠ 0)) → post 8) : wpX_endError post (cc, hc, md, sel, cs, ec, ep, ms, oc, fc, uc, fk, pn, pi, ln, pg, so, ed, he, fr, ou) (nI c) := by
  have H : ∀ d i, i + d = 4 → (∀ f, f < i → (fk f = 0 → c / 8 / 2 ^ f % 2 ≠ 0)) → wX_endError_2 post (nI c) cc hc md sel cs ec ep ms oc fc uc fk pn pi ln pg so ed he fr ou (d + 1) (nI i) := by
    intro d
    induction d with
    | zero =>
      intro i hi g
      obtain rfl : i = 4 := by omega
      rw [wX_endError_2]
      exact br_t (by decide) (h0 g)
    | succ d ih =>
      intro i hi g
      rw [wX_endError_2]
      refine br_f (nn_nge 4 (by omega) (by decide)) ⟨vp_in_nI (by omega) (by decide), ?_⟩
      rw [nI_clamp (by omega)]
      refine br_c (fun e => ?_) (fun e => nm_r (nI_1 i) (ih (i + 1) (by omega) (fun f hf e2 => ?_)))
      · unfold wpX_knows
        refine br_c (fun e2 => br_t rfl (h8 (fun z => z i (by omega) e ((nc_eK i (by omega) c hcc).mp e2)))) (fun e2 => br_f (by decide) (nm_r (nI_1 i) (ih (i + 1) (by omega) (fun f hf e3 => ?_))))
        by_cases z : f = i
        · subst z
          exact fun q => e2 ((nc_eK f (by omega) c hcc).mpr q)
        · exact g f (by omega) e3
      · by_cases z : f = i
        · subst z
          exact absurd e2 e
        · exact g f (by omega) e2
  unfold wpX_endError
  exact ⟨5, H 4 0 (by omega) (fun f hf => absurd hf (by omega))⟩
theorem rp_in {L : Nat → Nat} (hb : b < 4) (hfk : ∀ j, j < 4 → fk j = 0 ∨ fk j = 1) (hlb : ln b = nI (L b)) (hl2 : L b ≤ 32) (hpg : nv_pg L pg) (hq : ∀ p, p ≤ L b → nr_pt so rc sn si sf (b * 33 + p)) : ∀ d p : Nat, p + d = L b + 1 → ((∀ (post : SX → Prop) (J : Int32 → Int32 → Prop), J (nI b + 1) 0 → wX_report_19 post J (nI b) cc hc md sel cs ep ms oc fc uc fk pn pi ln pg so ed he fr ou (d + 1) (nI p) 0) ∧ (∀ (yec yep ych : Int32) (post : Int32 → SY → Prop), post (-1) (cc, hc, md, sel, yec, yep, cs, ms, oc, uc, fc, ych, fk, pn, pi, ln, pg, rc, sn, si, sf, tn, ti, tf, he, ou, fr) → wY_findErr_7 post (nI b) (ne_ym fk 4) cc hc md sel yec yep cs ms oc uc fc ych fk pn pi ln pg rc sn si sf tn ti tf he ou fr (d + 1) (nI p))) ∨ (∃ (p' : Nat) (e : Int32), p' ≤ L b ∧ e ≠ 0 ∧ (∀ (post : SX → Prop) (J : Int32 → Int32 → Prop), post (cc, hc, md, sel, cs, e, (nI (64 * b + p')), ms, oc, fc, uc, fk, pn, pi, ln, pg, so, ed, he, fr, ou) → wX_report_19 post J (nI b) cc hc md sel cs ep ms oc fc uc fk pn pi ln pg so ed he fr ou (d + 1) (nI p) 0) ∧ (∀ (yec yep ych : Int32) (post : Int32 → SY → Prop), post (nI p') (cc, hc, md, sel, e, yep, cs, ms, oc, uc, fc, ych, fk, pn, pi, ln, pg, rc, sn, si, sf, tn, ti, tf, he, ou, fr) → wY_findErr_7 post (nI b) (ne_ym fk 4) cc hc md sel yec yep cs ms oc uc fc ych fk pn pi ln pg rc sn si sf tn ti tf he ou fr (d + 1) (nI p))) := by
  have cb : (nI b).toNatClampNeg = b := nI_clamp (by omega)
  have vb : vp_in (nI b) 4 := vp_in_nI hb (by decide)
  intro d
  induction d with
  | zero =>
    intro p hpd
    left
    refine ⟨fun post J h => ?_, fun yec yep ych post h => ?_⟩
    · rw [wX_report_19]
      refine ⟨vb, ?_⟩
      rw [cb, hlb]
      exact br_t (nI_lt (by omega) (by omega)) (nm_e h)
    · rw [wY_findErr_7]
      refine ⟨vb, ?_⟩
      rw [cb, hlb]
      exact br_t (nI_lt (by omega) (by omega)) h
  | succ d ih =>
    intro p hpd
    have hqp := hq p (by omega)
    obtain ⟨hrs, h01⟩ := nr_pt1 hqp
    have ngt : ¬ nI (L b) < nI p := nI_nlt (by omega) (by omega)
    have c1 : (nI ((b * 33 + p) * 8)).toNatClampNeg = ((b * 33 + p) * 8) := nI_clamp (by omega)
    have c2 : (nI (b * 33 + p)).toNatClampNeg = b * 33 + p := nI_clamp (by omega)
    have v1 : vp_in (nI ((b * 33 + p) * 8)) 1056 := vp_in_nI (by omega) (by decide)
    have v2 : vp_in (nI (b * 33 + p)) 132 := vp_in_nI (by omega) (by decide)
    have XU : rc (b * 33 + p) = 0 → ∀ (post : SX → Prop) (J : Int32 → Int32 → Prop), wX_report_19 post J (nI b) cc hc md sel cs ep ms oc fc uc fk pn pi ln pg so ed he fr ou (d + 1) (nI (p + 1)) 0 → wX_report_19 post J (nI b) cc hc md sel cs ep ms oc fc uc fk pn pi ln pg so ed he fr ou (d + 1 + 1) (nI p) 0 := by
      intro z post J h
      rw [wX_report_19]
      refine ⟨vb, ?_⟩
      rw [cb, hlb]
      refine br_f ngt ?_
      unfold wpX_isReached wpX_stateAt
      rw [nn_st]
      refine ⟨v1, ?_⟩
      rw [c1]
      refine br_t (hrs.mpr z) (br_t rfl ?_)
      unfold wX_report_48
      exact br_t rfl (nm_r (nI_1 p) h)
    have XE : rc (b * 33 + p) = 1 → ∀ (post : SX → Prop) (J : Int32 → Int32 → Prop), wpX_errorAt (fun r_31 => wX_report_48 post J (wX_report_19 post J (nI b) cc hc md sel cs ep ms oc fc uc fk pn pi ln pg so ed he fr ou (d + 1)) (nI b) (nI p) cc hc md sel cs r_31 ep ms oc fc uc fk pn pi ln pg so ed he fr ou) (cc, hc, md, sel, cs, 0, ep, ms, oc, fc, uc, fk, pn, pi, ln, pg, so, ed, he, fr, ou) (nI b) (nI p) → wX_report_19 post J (nI b) cc hc md sel cs ep ms oc fc uc fk pn pi ln pg so ed he fr ou (d + 1 + 1) (nI p) 0 := by
      intro z post J h
      rw [wX_report_19]
      refine ⟨vb, ?_⟩
      rw [cb, hlb]
      refine br_f ngt ?_
      unfold wpX_isReached wpX_stateAt
      rw [nn_st]
      refine ⟨v1, ?_⟩
      rw [c1]
      exact br_f (fun e => absurd ((hrs.mp e).symm.trans z) (by decide)) (br_f (by decide) h)
    have X0 : ∀ (post : SX → Prop) (J : Int32 → Int32 → Prop), wX_report_19 post J (nI b) cc hc md sel cs ep ms oc fc uc fk pn pi ln pg so ed he fr ou (d + 1) (nI (p + 1)) 0 → wX_report_48 post J (wX_report_19 post J (nI b) cc hc md sel cs ep ms oc fc uc fk pn pi ln pg so ed he fr ou (d + 1)) (nI b) (nI p) cc hc md sel cs 0 ep ms oc fc uc fk pn pi ln pg so ed he fr ou := by
      intro post J h
      unfold wX_report_48
      exact br_t rfl (nm_r (nI_1 p) h)
    have X1 : ∀ (e : Int32), e ≠ 0 → ∀ (post : SX → Prop) (J : Int32 → Int32 → Prop), post (cc, hc, md, sel, cs, e, (nI (64 * b + p)), ms, oc, fc, uc, fk, pn, pi, ln, pg, so, ed, he, fr, ou) → wX_report_48 post J (wX_report_19 post J (nI b) cc hc md sel cs ep ms oc fc uc fk pn pi ln pg so ed he fr ou (d + 1)) (nI b) (nI p) cc hc md sel cs e ep ms oc fc uc fk pn pi ln pg so ed he fr ou := by
      intro e he0 post J h
      unfold wX_report_48
      exact br_f he0 (nm_r (by rw [nn_m64, nI_add]) h)
    have YU : rc (b * 33 + p) = 0 → ∀ (yec yep ych : Int32) (post : Int32 → SY → Prop), wY_findErr_7 post (nI b) (ne_ym fk 4) cc hc md sel yec yep cs ms oc uc fc ych fk pn pi ln pg rc sn si sf tn ti tf he ou fr (d + 1) (nI (p + 1)) → wY_findErr_7 post (nI b) (ne_ym fk 4) cc hc md sel yec yep cs ms oc uc fc ych fk pn pi ln pg rc sn si sf tn ti tf he ou fr (d + 1 + 1) (nI p) := by
      intro z yec yep ych post h
      rw [wY_findErr_7]
      refine ⟨vb, ?_⟩
      rw [cb, hlb]
      refine br_f ngt ?_
      rw [nn_m33, nI_add, c2]
      exact ⟨v2, br_t z (nm_r (nI_1 p) h)⟩
    have Y0 : ∀ (yec yep ych : Int32) (post : Int32 → SY → Prop), wY_findErr_7 post (nI b) (ne_ym fk 4) cc hc md sel yec yep cs ms oc uc fc ych fk pn pi ln pg rc sn si sf tn ti tf he ou fr (d + 1) (nI (p + 1)) → wY_findErr_87 post (wY_findErr_7 post (nI b) (ne_ym fk 4) cc hc md sel yec yep cs ms oc uc fc ych fk pn pi ln pg rc sn si sf tn ti tf he ou fr (d + 1)) (nI b) (ne_ym fk 4) (nI p) 0 cc hc md sel yec yep cs ms oc uc fc ych fk pn pi ln pg rc sn si sf tn ti tf he ou fr := by
      intro yec yep ych post h
      unfold wY_findErr_87
      exact br_t rfl (nm_r (nI_1 p) h)
    have Y1 : ∀ (e : Int32), e ≠ 0 → ∀ (yec yep ych : Int32) (post : Int32 → SY → Prop), post (nI p) (cc, hc, md, sel, e, yep, cs, ms, oc, uc, fc, ych, fk, pn, pi, ln, pg, rc, sn, si, sf, tn, ti, tf, he, ou, fr) → wY_findErr_87 post (wY_findErr_7 post (nI b) (ne_ym fk 4) cc hc md sel yec yep cs ms oc uc fc ych fk pn pi ln pg rc sn si sf tn ti tf he ou fr (d + 1)) (nI b) (ne_ym fk 4) (nI p) e cc hc md sel yec yep cs ms oc uc fc ych fk pn pi ln pg rc sn si sf tn ti tf he ou fr := by
      intro e he0 yec yep ych post h
      unfold wY_findErr_87
      exact br_f he0 h
    rcases h01 with z | z
    · rcases ih (p + 1) (by omega) with ⟨hX, hY⟩ | ⟨p', e, hp', he0, hX, hY⟩
      · exact Or.inl ⟨fun post J h => XU z post J (hX post J h), fun yec yep ych post h => YU z yec yep ych post (hY yec yep ych post h)⟩
      · exact Or.inr ⟨p', e, hp', he0, fun post J h => XU z post J (hX post J h), fun yec yep ych post h => YU z yec yep ych post (hY yec yep ych post h)⟩
    · obtain ⟨e, hXe, hYe⟩ : ∃ e : Int32, (∀ post : Int32 → Prop, post e → wpX_errorAt post (cc, hc, md, sel, cs, 0, ep, ms, oc, fc, uc, fk, pn, pi, ln, pg, so, ed, he, fr, ou) (nI b) (nI p)) ∧ (∀ (yec yep ych : Int32) (post : Int32 → SY → Prop), wY_findErr_87 post (wY_findErr_7 post (nI b) (ne_ym fk 4) cc hc md sel yec yep cs ms oc uc fc ych fk pn pi ln pg rc sn si sf tn ti tf he ou fr (d + 1)) (nI b) (ne_ym fk 4) (nI p) e cc hc md sel yec yep cs ms oc uc fc ych fk pn pi ln pg rc sn si sf tn ti tf he ou fr → wY_findErr_7 post (nI b) (ne_ym fk 4) cc hc md sel yec yep cs ms oc uc fc ych fk pn pi ln pg rc sn si sf tn ti tf he ou fr (d + 1 + 1) (nI p)) := by
        by_cases pl : p < L b
        · obtain ⟨e, hXe, hYe⟩ := er_both (cc := cc) (hc := hc) (md := md) (sel := sel) (cs := cs) (ec := 0) (ep := ep) (ms := ms) (oc := oc) (fc := fc) (uc := uc) (fk := fk) (pn := pn) (pi := pi) (ed := ed) (he := he) (fr := fr) (ou := ou) (tn := tn) (ti := ti) (tf := tf) hb hlb hl2 hpg pl hqp z
          refine ⟨e, hXe, fun yec yep ych post h => ?_⟩
          rw [wY_findErr_7]
          refine ⟨vb, ?_⟩
          rw [cb, hlb]
          refine br_f ngt ?_
          rw [nn_m33, nI_add, c2]
          exact ⟨v2, br_f (by rw [z]; decide) ⟨vb, br_f (nI_ge (by omega) (by omega)) (hYe yec yep ych _ h)⟩⟩
        · obtain rfl : p = L b := by omega
          obtain ⟨c, hcx⟩ : ∃ c, nc_cr (so ((b * 33 + L b) * 8)) (sn ((b * 33 + L b) * 8)) (si ((b * 33 + L b) * 8)) (sf ((b * 33 + L b) * 8)) c := by
            rcases hqp with ⟨h2, _⟩ | ⟨_, h3⟩
            · rw [z] at h2
              exact absurd h2 (by decide)
            · exact h3 0 (by omega)
          have hcc := hcx.1.1
          have hYend : ∀ (yec yep ych : Int32) (post : Int32 → SY → Prop), ((nI b < 1 → (wY_findErr_87 post (wY_findErr_7 post (nI b) (ne_ym fk 4) cc hc md sel yec yep cs ms oc uc fc ych fk pn pi ln pg rc sn si sf tn ti tf he ou fr (d + 1)) (nI b) (ne_ym fk 4) (nI (L b)) 0 cc hc md sel yec yep cs ms oc uc fc ych fk pn pi ln pg rc sn si sf tn ti tf he ou fr)) ∧ (¬ nI b < 1 → (vp_in (nI ((b * 33 + L b) * 8)) 1056 ∧ (((((sf ((b * 33 + L b) * 8)) &&& (ne_ym fk 4)) = (ne_ym fk 4) → (wY_findErr_87 post (wY_findErr_7 post (nI b) (ne_ym fk 4) cc hc md sel yec yep cs ms oc uc fc ych fk pn pi ln pg rc sn si sf tn ti tf he ou fr (d + 1)) (nI b) (ne_ym fk 4) (nI (L b)) 0 cc hc md sel yec yep cs ms oc uc fc ych fk pn pi ln pg rc sn si sf tn ti tf he ou fr)) ∧ (¬ ((sf ((b * 33 + L b) * 8)) &&& (ne_ym fk 4)) = (ne_ym fk 4) → (wY_findErr_87 post (wY_findErr_7 post (nI b) (ne_ym fk 4) cc hc md sel yec yep cs ms oc uc fc ych fk pn pi ln pg rc sn si sf tn ti tf he ou fr (d + 1)) (nI b) (ne_ym fk 4) (nI (L b)) 8 cc hc md sel yec yep cs ms oc uc fc ych fk pn pi ln pg rc sn si sf tn ti tf he ou fr))))))) → wY_findErr_7 post (nI b) (ne_ym fk 4) cc hc md sel yec yep cs ms oc uc fc ych fk pn pi ln pg rc sn si sf tn ti tf he ou fr (d + 1 + 1) (nI (L b)) := by
            intro yec yep ych post h
            rw [wY_findErr_7]
            refine ⟨vb, ?_⟩
            rw [cb, hlb]
            refine br_f ngt ?_
            rw [nn_m33, nI_add, c2, nn_m8, c1]
            exact ⟨v2, br_f (by rw [z]; decide) ⟨vb, br_t (nI_le (Nat.le_refl _) (by omega)) h⟩⟩
          have hXend : ∀ post : Int32 → Prop, ((nI b = 0 → post 0) ∧ (¬ nI b = 0 → wpX_endError post (cc, hc, md, sel, cs, 0, ep, ms, oc, fc, uc, fk, pn, pi, ln, pg, so, ed, he, fr, ou) (nI c))) → wpX_errorAt post (cc, hc, md, sel, cs, 0, ep, ms, oc, fc, uc, fk, pn, pi, ln, pg, so, ed, he, fr, ou) (nI b) (nI (L b)) := by
            intro post h
            unfold wpX_errorAt wpX_stateAt
            rw [nn_st]
            refine ⟨vb, ?_⟩
            rw [cb, hlb]
            refine br_t rfl ?_
            rw [c1, hcx.2.1]
            exact ⟨h.1, fun q => ⟨v1, h.2 q⟩⟩
          by_cases b0 : b = 0
          · refine ⟨0, fun post h => hXend post (br_t ((nl_eq0 (by omega)).mpr b0) h), fun yec yep ych post h => hYend yec yep ych post (br_t ((nl_lt1 (by omega)).mpr (by omega)) h)⟩
          · have n0 : ¬ nI b = 0 := fun q => b0 ((nl_eq0 (by omega)).mp q)
            have n1 : ¬ nI b < 1 := fun q => by
              have := (nl_lt1 (by omega)).mp q
              omega
            by_cases g : ∀ f, f < 4 → (fk f = 0 → c / 8 / 2 ^ f % 2 ≠ 0)
            · refine ⟨0, fun post h => hXend post (br_f n0 (xw_end hcc (fun _ => h) (fun q => absurd g q))), fun yec yep ych post h => hYend yec yep ych post (br_f n1 ⟨v1, br_t ?_ h⟩)⟩
              rw [hcx.2.2.2.2]
              exact (ne_end hfk hcc).mpr g
            · refine ⟨8, fun post h => hXend post (br_f n0 (xw_end hcc (fun q => absurd q g) (fun _ => h))), fun yec yep ych post h => hYend yec yep ych post (br_f n1 ⟨v1, br_f ?_ h⟩)⟩
              rw [hcx.2.2.2.2]
              exact fun q => g ((ne_end hfk hcc).mp q)
      by_cases e0 : e = 0
      · subst e0
        rcases ih (p + 1) (by omega) with ⟨hX, hY⟩ | ⟨p', e, hp', he0, hX, hY⟩
        · exact Or.inl ⟨fun post J h => XE z post J (hXe _ (X0 post J (hX post J h))), fun yec yep ych post h => hYe yec yep ych post (Y0 yec yep ych post (hY yec yep ych post h))⟩
        · exact Or.inr ⟨p', e, hp', he0, fun post J h => XE z post J (hXe _ (X0 post J (hX post J h))), fun yec yep ych post h => hYe yec yep ych post (Y0 yec yep ych post (hY yec yep ych post h))⟩
      · exact Or.inr ⟨p, e, by omega, e0, fun post J h => XE z post J (hXe _ (X1 e e0 post J h)), fun yec yep ych post h => hYe yec yep ych post (Y1 e e0 yec yep ych post h)⟩
end
end
section
/-! the machine's step, both sides at once -/
theorem nn_s12 (g : Nat) : nI ((g + 1) * 12) - 12 = nI (g * 12) := by
  have e : (g + 1) * 12 - 12 = g * 12 := by omega
  rw [← e]
  exact pk_sub (b := 12) (by omega)
section
variable {cc hc md sel cs ec ep ms oc fc uc : Int32} {fk pn pi ln pg so ed he fr ou : Nat → Int32}
theorem xm_push {F : Nat} {bl ar de ow : Int32} (hF : F < 8) {post : SX → Prop} (h : post (cc, hc, md, sel, cs, ec, ep, ms, oc, (nI (F + 1)), uc, fk, pn, pi, ln, pg, so, ed, he, (nw_push fr F bl ar de ow), ou)) : wpX_pushFrame post (cc, hc, md, sel, cs, ec, ep, ms, oc, (nI F), uc, fk, pn, pi, ln, pg, so, ed, he, fr, ou) bl ar de ow := by
  have H : ∀ d i, i + d = 8 → wX_pushFrame_12 post bl ar de ow (nI (F * 12)) cc hc md sel cs ec ep ms oc (nI F) uc (d + 1) (nI i) fk pn pi ln pg so ed he (na_fi fr (F * 12) i (-1)) ou := by
    intro d
    induction d with
    | zero =>
      intro i hi
      obtain rfl : i = 8 := by omega
      rw [wX_pushFrame_12]
      refine br_t (by decide) ?_
      rw [nn_a1 (F * 12), nn_a8, nn_a9, nn_a10, nn_a11, nI_clamp (n := F * 12) (by omega), nI_clamp (n := F * 12 + 1) (by omega), nI_clamp (n := F * 12 + 8) (by omega), nI_clamp (n := F * 12 + 9) (by omega), nI_clamp (n := F * 12 + 10) (by omega), nI_clamp (n := F * 12 + 11) (by omega)]
      exact ⟨vp_in_nI (by omega) (by decide), nm_e ⟨vp_in_nI (by omega) (by decide), nm_e ⟨vp_in_nI (by omega) (by decide), nm_e ⟨vp_in_nI (by omega) (by decide), nm_e ⟨vp_in_nI (by omega) (by decide), nm_e ⟨vp_in_nI (by omega) (by decide), nm_e (nm_r (nn_a1 F) h)⟩⟩⟩⟩⟩⟩
    | succ d ih =>
      intro i hi
      rw [wX_pushFrame_12]
      refine br_f (nn_nge 8 (by omega) (by decide)) ⟨nn_inA (by omega) (by decide), nm_r ?_ (nm_r (nI_1 i) (ih (i + 1) (by omega)))⟩
      rw [nn_clA (by omega), na_fiS]
  unfold wpX_pushFrame
  refine nm_r (nn_m12 F) ⟨9, ?_⟩
  have q := H 8 0 (by omega)
  rw [na_fi0] at q
  exact q
theorem xm_make {O : Nat} (hO : O < 32) {post : SX → Prop} (h : post (cc, hc, md, sel, cs, ec, ep, ms, (nI (O + 1)), fc, uc, fk, pn, pi, ln, pg, so, ed, (na_fi he (O * 4) 4 (-1)), fr, ou)) : wpX_makeObject post (cc, hc, md, sel, cs, ec, ep, ms, (nI O), fc, uc, fk, pn, pi, ln, pg, so, ed, he, fr, ou) := by
  have H : ∀ d i, i + d = 4 → wX_makeObject_2 post cc hc md sel cs ec ep ms (nI O) fc uc (d + 1) (nI i) fk pn pi ln pg so ed (na_fi he (O * 4) i (-1)) fr ou := by
    intro d
    induction d with
    | zero =>
      intro i hi
      obtain rfl : i = 4 := by omega
      rw [wX_makeObject_2]
      exact br_t (by decide) (nm_r (nn_a1 O) h)
    | succ d ih =>
      intro i hi
      rw [wX_makeObject_2]
      refine br_f (nn_nge 4 (by omega) (by decide)) ?_
      rw [nn_m4]
      refine ⟨nn_inA (by omega) (by decide), nm_r ?_ (nm_r (nI_1 i) (ih (i + 1) (by omega)))⟩
      rw [nn_clA (by omega), na_fiS]
  unfold wpX_makeObject
  refine ⟨5, ?_⟩
  have q := H 4 0 (by omega)
  rw [na_fi0] at q
  exact q
theorem xm_169 {G : Nat} (hG : G < 8) {v : Int32} {post : SX → Prop} (h : post (cc, hc, md, sel, cs, ec, ep, ms, oc, fc, uc, fk, pn, pi, ln, pg, so, ed, he, (upd fr (G * 12 + 9) v), ou)) : wX_stepPlain_169 post (nI (G * 12)) v cc hc md sel cs ec ep ms oc fc uc fk pn pi ln pg so ed he fr ou := by
  unfold wX_stepPlain_169
  rw [nn_a9, nI_clamp (by omega)]
  exact ⟨vp_in_nI (by omega) (by decide), nm_e h⟩
end
section
variable {cc hc md sel yec yep cs ms oc uc fc ych : Int32} {fk pn pi ln pg rc sn si sf tn ti tf he ou fr : Nat → Int32}
theorem ym_743 {G : Nat} (hG : G < 8) {v : Int32} {post : SY → Prop} (h : post (cc, hc, md, sel, yec, yep, cs, ms, oc, uc, fc, ych, fk, pn, pi, ln, pg, rc, sn, si, sf, tn, ti, tf, he, ou, (upd fr (G * 12 + 9) v))) : wY_step_743 post (nI (G * 12)) v cc hc md sel yec yep cs ms oc uc fc ych fk pn pi ln pg rc sn si sf tn ti tf he ou fr := by
  unfold wY_step_743
  rw [nn_a9, nI_clamp (by omega)]
  exact ⟨vp_in_nI (by omega) (by decide), nm_e h⟩
theorem ym_641 {F : Nat} {bl ar de ow : Int32} (hF : F < 8) {post : SY → Prop} (h : post (cc, hc, md, sel, yec, yep, cs, ms, oc, uc, (nI (F + 1)), ych, fk, pn, pi, ln, pg, rc, sn, si, sf, tn, ti, tf, he, ou, (nw_push fr F bl ar de ow))) : ∃ n, wY_step_641 post de bl ar ow (nI (F * 12)) cc hc md sel yec yep cs ms oc uc (nI F) ych n 0 fk pn pi ln pg rc sn si sf tn ti tf he ou fr := by
  have H : ∀ d i, i + d = 8 → wY_step_641 post de bl ar ow (nI (F * 12)) cc hc md sel yec yep cs ms oc uc (nI F) ych (d + 1) (nI i) fk pn pi ln pg rc sn si sf tn ti tf he ou (na_fi fr (F * 12) i (-1)) := by
    intro d
    induction d with
    | zero =>
      intro i hi
      obtain rfl : i = 8 := by omega
      rw [wY_step_641]
      refine br_t (by decide) ?_
      rw [nn_a1 (F * 12), nn_a8, nn_a9, nn_a10, nn_a11, nI_clamp (n := F * 12) (by omega), nI_clamp (n := F * 12 + 1) (by omega), nI_clamp (n := F * 12 + 8) (by omega), nI_clamp (n := F * 12 + 9) (by omega), nI_clamp (n := F * 12 + 10) (by omega), nI_clamp (n := F * 12 + 11) (by omega)]
      exact ⟨vp_in_nI (by omega) (by decide), nm_e ⟨vp_in_nI (by omega) (by decide), nm_e ⟨vp_in_nI (by omega) (by decide), nm_e ⟨vp_in_nI (by omega) (by decide), nm_e ⟨vp_in_nI (by omega) (by decide), nm_e ⟨vp_in_nI (by omega) (by decide), nm_e (nm_r (nn_a1 F) h)⟩⟩⟩⟩⟩⟩
    | succ d ih =>
      intro i hi
      rw [wY_step_641]
      refine br_f (nn_nge 8 (by omega) (by decide)) ⟨nn_inA (by omega) (by decide), nm_r ?_ (nm_r (nI_1 i) (ih (i + 1) (by omega)))⟩
      rw [nn_clA (by omega), na_fiS]
  have q := H 8 0 (by omega)
  rw [na_fi0] at q
  exact ⟨9, q⟩
theorem ym_593 {G O : Nat} {bl ar de v : Int32} (hG : G + 1 < 8) (hO : O < 32) {post : SY → Prop} (h : post (cc, hc, md, sel, yec, yep, cs, ms, oc, uc, (nI (G + 1 + 1)), ych, fk, pn, pi, ln, pg, rc, sn, si, sf, tn, ti, tf, (na_fi he (O * 4) 4 (-1)), ou, (nw_push (upd fr (G * 12 + 9) v) (G + 1) bl ar de (nI O)))) : ∃ n, wY_step_593 post (nI (G * 12)) de bl v ar (nI O) cc hc md sel yec yep cs ms oc uc (nI (G + 1)) ych n 0 fk pn pi ln pg rc sn si sf tn ti tf he ou fr := by
  have H : ∀ d i, i + d = 4 → wY_step_593 post (nI (G * 12)) de bl v ar (nI O) cc hc md sel yec yep cs ms oc uc (nI (G + 1)) ych (d + 1) (nI i) fk pn pi ln pg rc sn si sf tn ti tf (na_fi he (O * 4) i (-1)) ou fr := by
    intro d
    induction d with
    | zero =>
      intro i hi
      obtain rfl : i = 4 := by omega
      rw [wY_step_593]
      refine br_t (by decide) ?_
      rw [nn_a9, nI_clamp (n := G * 12 + 9) (by omega)]
      exact ⟨vp_in_nI (by omega) (by decide), nm_e (nm_r (nn_m12 (G + 1)) (ym_641 hG h))⟩
    | succ d ih =>
      intro i hi
      rw [wY_step_593]
      refine br_f (nn_nge 4 (by omega) (by decide)) ?_
      rw [nn_m4]
      refine ⟨nn_inA (by omega) (by decide), nm_r ?_ (nm_r (nI_1 i) (ih (i + 1) (by omega)))⟩
      rw [nn_clA (by omega), na_fiS]
  have q := H 4 0 (by omega)
  rw [na_fi0] at q
  exact ⟨5, q⟩
end
def nf_st (G O U H D : Nat) (cc sel cs ec ep ms : Int32) (fk pn pi ln pg so ed he fr ou rc sn si sf tn ti tf : Nat → Int32) : Prop := ∃ (ms' : Int32) (O' F' U' : Nat) (he' fr' ou' : Nat → Int32), 1 ≤ F' ∧ nv_M O' F' U' H D he' fr' ∧ (∀ post : SX → Prop, post (cc, (nI H), (nI D), sel, cs, ec, ep, ms', (nI O'), (nI F'), (nI U'), fk, pn, pi, ln, pg, so, ed, he', fr', ou') → wpX_step post (cc, (nI H), (nI D), sel, cs, ec, ep, ms, (nI O), (nI (G + 1)), (nI U), fk, pn, pi, ln, pg, so, ed, he, fr, ou)) ∧ (∀ (yec yep ych : Int32) (post : SY → Prop), post (cc, (nI H), (nI D), sel, yec, yep, cs, ms', (nI O'), (nI U'), (nI F'), ych, fk, pn, pi, ln, pg, rc, sn, si, sf, tn, ti, tf, he', ou', fr') → wpY_step post (cc, (nI H), (nI D), sel, yec, yep, cs, ms, (nI O), (nI U), (nI (G + 1)), ych, fk, pn, pi, ln, pg, rc, sn, si, sf, tn, ti, tf, he, ou, fr))
section
variable {cc sel cs ec ep ms : Int32} {fk pn pi ln pg so ed he fr ou rc sn si sf tn ti tf : Nat → Int32} {G O U H D b p l : Nat} {A B K : Nat}
theorem st_0 (hD : D ≤ 8) (hH : H ≤ 32) (hM : nv_M O (G + 1) U H D he fr) (hb : b < 4) (ebl : fr (G * 12 + 8) = nI b) (epc : fr (G * 12 + 9) = nI p) (hlb : ln b = nI l) (hl2 : l ≤ 32) (hp : p < l) (ea : pg ((b * 32 + p) * 4 + 1) = nI A) (eB : pg ((b * 32 + p) * 4 + 2) = nI B) (eK : pg ((b * 32 + p) * 4 + 3) = nI K) (eo : pg ((b * 32 + p) * 4) = nI 0) (hA : A < 8) : nf_st G O U H D cc sel cs ec ep ms fk pn pi ln pg so ed he fr ou rc sn si sf tn ti tf := by
  have hF := hM.2.1
  have hO := hM.1
  refine ⟨ms, O, G + 1, U, he, upd (upd fr (G * 12 + A) (-1)) (G * 12 + 9) (nI (p + 1)), ou, by omega, (nv_Mf hM (fun k hk q => nv_frP (nv_frL q hA (Or.inl rfl)) (by omega))), fun post h => ?_, fun yec yep ych post h => ?_⟩
  · unfold wpX_step
    refine nm_r (e' := nI (G * 12)) (by rw [nI_pred, nn_m12]) ⟨pk_in _ 96 (by omega) (nn_a8 _) (by decide), nm_r (e' := nI b) (by rw [nn_a8, nI_clamp (by omega)]; exact ebl) ⟨pk_in _ 96 (by omega) (nn_a9 _) (by decide), nm_r (e' := nI p) (by rw [nn_a9, nI_clamp (by omega)]; exact epc) ⟨vp_in_nI hb (by decide), ?_⟩⟩⟩
    rw [nI_clamp (n := b) (by omega), hlb]
    refine br_t (nI_lt (by omega) (by omega)) ?_
    unfold wpX_codeAt
    rw [nn_ct]
    refine ⟨vp_in_nI (by omega) (by decide), nm_r (e' := nI 0) (by rw [nI_clamp (by omega)]; exact eo) ⟨pk_in _ 512 (by omega) (nn_a1 _) (by decide), nm_r (e' := nI A) (by rw [nn_a1, nI_clamp (by omega)]; exact ea) ⟨pk_in _ 512 (by omega) (nn_a2 _) (by decide), nm_r (e' := nI B) (by rw [nn_a2, nI_clamp (by omega)]; exact eB) ⟨pk_in _ 512 (by omega) (nn_a3 _) (by decide), nm_r (e' := nI K) (by rw [nn_a3, nI_clamp (by omega)]; exact eK) ?_⟩⟩⟩⟩
    refine br_t (by decide) ?_
    unfold wX_step_190 wpX_stepPlain
    refine ⟨pk_in _ 96 (by omega) (nn_a9 _) (by decide), nm_r (e' := nI (p + 1)) (by rw [nn_a9, nI_clamp (by omega), epc, nn_a1]) ?_⟩
    refine br_f (by decide) (br_f (by decide) (br_t (by decide) ?_))
    rw [nn_clA (by omega)]
    exact ⟨nn_inA (by omega) (by decide), nm_e (xm_169 (by omega) h)⟩
  · unfold wpY_step
    refine nm_r (e' := nI (G * 12)) (by rw [nI_pred, nn_m12]) ⟨pk_in _ 96 (by omega) (nn_a8 _) (by decide), nm_r (e' := nI b) (by rw [nn_a8, nI_clamp (by omega)]; exact ebl) ⟨pk_in _ 96 (by omega) (nn_a9 _) (by decide), nm_r (e' := nI p) (by rw [nn_a9, nI_clamp (by omega)]; exact epc) ⟨vp_in_nI hb (by decide), ?_⟩⟩⟩
    rw [nI_clamp (n := b) (by omega), hlb]
    rw [nn_ct]
    refine br_f (nI_ge (by omega) (by omega)) ⟨vp_in_nI (by omega) (by decide), ?_⟩
    rw [nI_clamp (n := (b * 32 + p) * 4) (by omega), eo]
    refine br_f (by decide) (nm_e ⟨vp_in_nI (by omega) (by decide), nm_r (e' := nI 0) (by rw [nI_clamp (by omega)]; exact eo) ⟨pk_in _ 512 (by omega) (nn_a1 _) (by decide), nm_r (e' := nI A) (by rw [nn_a1, nI_clamp (by omega)]; exact ea) ⟨pk_in _ 512 (by omega) (nn_a2 _) (by decide), nm_r (e' := nI B) (by rw [nn_a2, nI_clamp (by omega)]; exact eB) ⟨pk_in _ 512 (by omega) (nn_a3 _) (by decide), nm_r (e' := nI K) (by rw [nn_a3, nI_clamp (by omega)]; exact eK) (nm_r (nn_a1 p) ?_)⟩⟩⟩⟩)
    refine br_t (by decide) ?_
    rw [nn_clA (by omega)]
    exact ⟨nn_inA (by omega) (by decide), nm_e (ym_743 (by omega) h)⟩
theorem st_1 (hD : D ≤ 8) (hH : H ≤ 32) (hM : nv_M O (G + 1) U H D he fr) (hb : b < 4) (ebl : fr (G * 12 + 8) = nI b) (epc : fr (G * 12 + 9) = nI p) (hlb : ln b = nI l) (hl2 : l ≤ 32) (hp : p < l) (ea : pg ((b * 32 + p) * 4 + 1) = nI A) (eB : pg ((b * 32 + p) * 4 + 2) = nI B) (eK : pg ((b * 32 + p) * 4 + 3) = nI K) (eo : pg ((b * 32 + p) * 4) = nI 1) (hA : A < 8) (hB : B < 8) (hv : nv_vl O (fr (G * 12 + B))) : nf_st G O U H D cc sel cs ec ep ms fk pn pi ln pg so ed he fr ou rc sn si sf tn ti tf := by
  have hF := hM.2.1
  have hO := hM.1
  refine ⟨ms, O, G + 1, U, he, upd (upd fr (G * 12 + A) (fr (G * 12 + B))) (G * 12 + 9) (nI (p + 1)), ou, by omega, (nv_Mf hM (fun k hk q => nv_frP (nv_frL q hA hv) (by omega))), fun post h => ?_, fun yec yep ych post h => ?_⟩
  · unfold wpX_step
    refine nm_r (e' := nI (G * 12)) (by rw [nI_pred, nn_m12]) ⟨pk_in _ 96 (by omega) (nn_a8 _) (by decide), nm_r (e' := nI b) (by rw [nn_a8, nI_clamp (by omega)]; exact ebl) ⟨pk_in _ 96 (by omega) (nn_a9 _) (by decide), nm_r (e' := nI p) (by rw [nn_a9, nI_clamp (by omega)]; exact epc) ⟨vp_in_nI hb (by decide), ?_⟩⟩⟩
    rw [nI_clamp (n := b) (by omega), hlb]
    refine br_t (nI_lt (by omega) (by omega)) ?_
    unfold wpX_codeAt
    rw [nn_ct]
    refine ⟨vp_in_nI (by omega) (by decide), nm_r (e' := nI 1) (by rw [nI_clamp (by omega)]; exact eo) ⟨pk_in _ 512 (by omega) (nn_a1 _) (by decide), nm_r (e' := nI A) (by rw [nn_a1, nI_clamp (by omega)]; exact ea) ⟨pk_in _ 512 (by omega) (nn_a2 _) (by decide), nm_r (e' := nI B) (by rw [nn_a2, nI_clamp (by omega)]; exact eB) ⟨pk_in _ 512 (by omega) (nn_a3 _) (by decide), nm_r (e' := nI K) (by rw [nn_a3, nI_clamp (by omega)]; exact eK) ?_⟩⟩⟩⟩
    refine br_t (by decide) ?_
    unfold wX_step_190 wpX_stepPlain
    refine ⟨pk_in _ 96 (by omega) (nn_a9 _) (by decide), nm_r (e' := nI (p + 1)) (by rw [nn_a9, nI_clamp (by omega), epc, nn_a1]) ?_⟩
    refine br_f (by decide) (br_f (by decide) (br_f (by decide) (br_t (by decide) ?_)))
    rw [nn_clA (a := G * 12) (b := B) (by omega), nn_clA (a := G * 12) (b := A) (by omega)]
    exact ⟨nn_inA (by omega) (by decide), nn_inA (by omega) (by decide), nm_e (xm_169 (by omega) h)⟩
  · unfold wpY_step
    refine nm_r (e' := nI (G * 12)) (by rw [nI_pred, nn_m12]) ⟨pk_in _ 96 (by omega) (nn_a8 _) (by decide), nm_r (e' := nI b) (by rw [nn_a8, nI_clamp (by omega)]; exact ebl) ⟨pk_in _ 96 (by omega) (nn_a9 _) (by decide), nm_r (e' := nI p) (by rw [nn_a9, nI_clamp (by omega)]; exact epc) ⟨vp_in_nI hb (by decide), ?_⟩⟩⟩
    rw [nI_clamp (n := b) (by omega), hlb]
    rw [nn_ct]
    refine br_f (nI_ge (by omega) (by omega)) ⟨vp_in_nI (by omega) (by decide), ?_⟩
    rw [nI_clamp (n := (b * 32 + p) * 4) (by omega), eo]
    refine br_f (by decide) (nm_e ⟨vp_in_nI (by omega) (by decide), nm_r (e' := nI 1) (by rw [nI_clamp (by omega)]; exact eo) ⟨pk_in _ 512 (by omega) (nn_a1 _) (by decide), nm_r (e' := nI A) (by rw [nn_a1, nI_clamp (by omega)]; exact ea) ⟨pk_in _ 512 (by omega) (nn_a2 _) (by decide), nm_r (e' := nI B) (by rw [nn_a2, nI_clamp (by omega)]; exact eB) ⟨pk_in _ 512 (by omega) (nn_a3 _) (by decide), nm_r (e' := nI K) (by rw [nn_a3, nI_clamp (by omega)]; exact eK) (nm_r (nn_a1 p) ?_)⟩⟩⟩⟩)
    refine br_f (by decide) (br_t (by decide) ?_)
    rw [nn_clA (a := G * 12) (b := B) (by omega), nn_clA (a := G * 12) (b := A) (by omega)]
    exact ⟨nn_inA (by omega) (by decide), nn_inA (by omega) (by decide), nm_e (ym_743 (by omega) h)⟩
theorem st_7 (hD : D ≤ 8) (hH : H ≤ 32) (hM : nv_M O (G + 1) U H D he fr) (hb : b < 4) (ebl : fr (G * 12 + 8) = nI b) (epc : fr (G * 12 + 9) = nI p) (hlb : ln b = nI l) (hl2 : l ≤ 32) (hp : p < l) (ea : pg ((b * 32 + p) * 4 + 1) = nI A) (eB : pg ((b * 32 + p) * 4 + 2) = nI B) (eK : pg ((b * 32 + p) * 4 + 3) = nI K) (eo : pg ((b * 32 + p) * 4) = nI 7) (hA : A < 33) : nf_st G O U H D cc sel cs ec ep ms fk pn pi ln pg so ed he fr ou rc sn si sf tn ti tf := by
  have hF := hM.2.1
  have hO := hM.1
  refine ⟨ms, O, G + 1, U, he, upd fr (G * 12 + 9) (nI A), ou, by omega, (nv_Mf hM (fun k hk q => nv_frP q (by omega))), fun post h => ?_, fun yec yep ych post h => ?_⟩
  · unfold wpX_step
    refine nm_r (e' := nI (G * 12)) (by rw [nI_pred, nn_m12]) ⟨pk_in _ 96 (by omega) (nn_a8 _) (by decide), nm_r (e' := nI b) (by rw [nn_a8, nI_clamp (by omega)]; exact ebl) ⟨pk_in _ 96 (by omega) (nn_a9 _) (by decide), nm_r (e' := nI p) (by rw [nn_a9, nI_clamp (by omega)]; exact epc) ⟨vp_in_nI hb (by decide), ?_⟩⟩⟩
    rw [nI_clamp (n := b) (by omega), hlb]
    refine br_t (nI_lt (by omega) (by omega)) ?_
    unfold wpX_codeAt
    rw [nn_ct]
    refine ⟨vp_in_nI (by omega) (by decide), nm_r (e' := nI 7) (by rw [nI_clamp (by omega)]; exact eo) ⟨pk_in _ 512 (by omega) (nn_a1 _) (by decide), nm_r (e' := nI A) (by rw [nn_a1, nI_clamp (by omega)]; exact ea) ⟨pk_in _ 512 (by omega) (nn_a2 _) (by decide), nm_r (e' := nI B) (by rw [nn_a2, nI_clamp (by omega)]; exact eB) ⟨pk_in _ 512 (by omega) (nn_a3 _) (by decide), nm_r (e' := nI K) (by rw [nn_a3, nI_clamp (by omega)]; exact eK) ?_⟩⟩⟩⟩
    refine br_f (by decide) (br_f (by decide) (br_f (by decide) (br_f (by decide) (br_f (by decide) (br_f (by decide) (br_f (by decide) (br_t (by decide) ?_)))))))
    unfold wX_step_190 wpX_stepPlain
    refine ⟨pk_in _ 96 (by omega) (nn_a9 _) (by decide), nm_r (e' := nI (p + 1)) (by rw [nn_a9, nI_clamp (by omega), epc, nn_a1]) ?_⟩
    refine br_f (by decide) (br_f (by decide) (br_f (by decide) (br_f (by decide) (br_f (by decide) (br_f (by decide) (br_f (by decide) (br_f (by decide) (br_f (by decide) (br_t (by decide) ?_)))))))))
    exact xm_169 (by omega) h
  · unfold wpY_step
    refine nm_r (e' := nI (G * 12)) (by rw [nI_pred, nn_m12]) ⟨pk_in _ 96 (by omega) (nn_a8 _) (by decide), nm_r (e' := nI b) (by rw [nn_a8, nI_clamp (by omega)]; exact ebl) ⟨pk_in _ 96 (by omega) (nn_a9 _) (by decide), nm_r (e' := nI p) (by rw [nn_a9, nI_clamp (by omega)]; exact epc) ⟨vp_in_nI hb (by decide), ?_⟩⟩⟩
    rw [nI_clamp (n := b) (by omega), hlb]
    rw [nn_ct]
    refine br_f (nI_ge (by omega) (by omega)) ⟨vp_in_nI (by omega) (by decide), ?_⟩
    rw [nI_clamp (n := (b * 32 + p) * 4) (by omega), eo]
    refine br_f (by decide) (nm_e ⟨vp_in_nI (by omega) (by decide), nm_r (e' := nI 7) (by rw [nI_clamp (by omega)]; exact eo) ⟨pk_in _ 512 (by omega) (nn_a1 _) (by decide), nm_r (e' := nI A) (by rw [nn_a1, nI_clamp (by omega)]; exact ea) ⟨pk_in _ 512 (by omega) (nn_a2 _) (by decide), nm_r (e' := nI B) (by rw [nn_a2, nI_clamp (by omega)]; exact eB) ⟨pk_in _ 512 (by omega) (nn_a3 _) (by decide), nm_r (e' := nI K) (by rw [nn_a3, nI_clamp (by omega)]; exact eK) (nm_r (nn_a1 p) ?_)⟩⟩⟩⟩)
    refine br_f (by decide) (br_f (by decide) (br_f (by decide) (br_t (by decide) ?_)))
    exact ym_743 (by omega) h
theorem st_5a (hD : D ≤ 8) (hH : H ≤ 32) (hM : nv_M O (G + 1) U H D he fr) (hb : b < 4) (ebl : fr (G * 12 + 8) = nI b) (epc : fr (G * 12 + 9) = nI p) (hlb : ln b = nI l) (hl2 : l ≤ 32) (hp : p < l) (ea : pg ((b * 32 + p) * 4 + 1) = nI A) (eB : pg ((b * 32 + p) * 4 + 2) = nI B) (eK : pg ((b * 32 + p) * 4 + 3) = nI K) (eo : pg ((b * 32 + p) * 4) = nI 5) (hA : A < 8) (hB : B < 33) (e : fr (G * 12 + A) = -1) : nf_st G O U H D cc sel cs ec ep ms fk pn pi ln pg so ed he fr ou rc sn si sf tn ti tf := by
  have hF := hM.2.1
  have hO := hM.1
  refine ⟨ms, O, G + 1, U, he, upd fr (G * 12 + 9) (nI (B)), ou, by omega, (nv_Mf hM (fun k hk q => nv_frP q (by omega))), fun post h => ?_, fun yec yep ych post h => ?_⟩
  · unfold wpX_step
    refine nm_r (e' := nI (G * 12)) (by rw [nI_pred, nn_m12]) ⟨pk_in _ 96 (by omega) (nn_a8 _) (by decide), nm_r (e' := nI b) (by rw [nn_a8, nI_clamp (by omega)]; exact ebl) ⟨pk_in _ 96 (by omega) (nn_a9 _) (by decide), nm_r (e' := nI p) (by rw [nn_a9, nI_clamp (by omega)]; exact epc) ⟨vp_in_nI hb (by decide), ?_⟩⟩⟩
    rw [nI_clamp (n := b) (by omega), hlb]
    refine br_t (nI_lt (by omega) (by omega)) ?_
    unfold wpX_codeAt
    rw [nn_ct]
    refine ⟨vp_in_nI (by omega) (by decide), nm_r (e' := nI 5) (by rw [nI_clamp (by omega)]; exact eo) ⟨pk_in _ 512 (by omega) (nn_a1 _) (by decide), nm_r (e' := nI A) (by rw [nn_a1, nI_clamp (by omega)]; exact ea) ⟨pk_in _ 512 (by omega) (nn_a2 _) (by decide), nm_r (e' := nI B) (by rw [nn_a2, nI_clamp (by omega)]; exact eB) ⟨pk_in _ 512 (by omega) (nn_a3 _) (by decide), nm_r (e' := nI K) (by rw [nn_a3, nI_clamp (by omega)]; exact eK) ?_⟩⟩⟩⟩
    refine br_f (by decide) (br_f (by decide) (br_f (by decide) (br_f (by decide) (br_f (by decide) (br_t (by decide) ?_)))))
    unfold wX_step_190 wpX_stepPlain
    refine ⟨pk_in _ 96 (by omega) (nn_a9 _) (by decide), nm_r (e' := nI (p + 1)) (by rw [nn_a9, nI_clamp (by omega), epc, nn_a1]) ?_⟩
    refine br_f (by decide) (br_f (by decide) (br_f (by decide) (br_f (by decide) (br_f (by decide) (br_f (by decide) (br_f (by decide) (br_t (by decide) ?_)))))))
    rw [nn_clA (by omega)]
    refine ⟨nn_inA (by omega) (by decide), br_t e ?_⟩
    unfold wX_stepPlain_119
    exact xm_169 (by omega) h
  · unfold wpY_step
    refine nm_r (e' := nI (G * 12)) (by rw [nI_pred, nn_m12]) ⟨pk_in _ 96 (by omega) (nn_a8 _) (by decide), nm_r (e' := nI b) (by rw [nn_a8, nI_clamp (by omega)]; exact ebl) ⟨pk_in _ 96 (by omega) (nn_a9 _) (by decide), nm_r (e' := nI p) (by rw [nn_a9, nI_clamp (by omega)]; exact epc) ⟨vp_in_nI hb (by decide), ?_⟩⟩⟩
    rw [nI_clamp (n := b) (by omega), hlb]
    rw [nn_ct]
    refine br_f (nI_ge (by omega) (by omega)) ⟨vp_in_nI (by omega) (by decide), ?_⟩
    rw [nI_clamp (n := (b * 32 + p) * 4) (by omega), eo]
    refine br_f (by decide) (nm_e ⟨vp_in_nI (by omega) (by decide), nm_r (e' := nI 5) (by rw [nI_clamp (by omega)]; exact eo) ⟨pk_in _ 512 (by omega) (nn_a1 _) (by decide), nm_r (e' := nI A) (by rw [nn_a1, nI_clamp (by omega)]; exact ea) ⟨pk_in _ 512 (by omega) (nn_a2 _) (by decide), nm_r (e' := nI B) (by rw [nn_a2, nI_clamp (by omega)]; exact eB) ⟨pk_in _ 512 (by omega) (nn_a3 _) (by decide), nm_r (e' := nI K) (by rw [nn_a3, nI_clamp (by omega)]; exact eK) (nm_r (nn_a1 p) ?_)⟩⟩⟩⟩)
    refine br_f (by decide) (br_f (by decide) (br_f (by decide) (br_f (by decide) (br_t (by decide) ?_))))
    rw [nn_clA (by omega)]
    exact ⟨nn_inA (by omega) (by decide), br_t e (ym_743 (by omega) h)⟩
theorem st_5b (hD : D ≤ 8) (hH : H ≤ 32) (hM : nv_M O (G + 1) U H D he fr) (hb : b < 4) (ebl : fr (G * 12 + 8) = nI b) (epc : fr (G * 12 + 9) = nI p) (hlb : ln b = nI l) (hl2 : l ≤ 32) (hp : p < l) (ea : pg ((b * 32 + p) * 4 + 1) = nI A) (eB : pg ((b * 32 + p) * 4 + 2) = nI B) (eK : pg ((b * 32 + p) * 4 + 3) = nI K) (eo : pg ((b * 32 + p) * 4) = nI 5) (hA : A < 8) (hB : B < 33) (e : ¬ fr (G * 12 + A) = -1) : nf_st G O U H D cc sel cs ec ep ms fk pn pi ln pg so ed he fr ou rc sn si sf tn ti tf := by
  have hF := hM.2.1
  have hO := hM.1
  refine ⟨ms, O, G + 1, U, he, upd fr (G * 12 + 9) (nI (p + 1)), ou, by omega, (nv_Mf hM (fun k hk q => nv_frP q (by omega))), fun post h => ?_, fun yec yep ych post h => ?_⟩
  · unfold wpX_step
    refine nm_r (e' := nI (G * 12)) (by rw [nI_pred, nn_m12]) ⟨pk_in _ 96 (by omega) (nn_a8 _) (by decide), nm_r (e' := nI b) (by rw [nn_a8, nI_clamp (by omega)]; exact ebl) ⟨pk_in _ 96 (by omega) (nn_a9 _) (by decide), nm_r (e' := nI p) (by rw [nn_a9, nI_clamp (by omega)]; exact epc) ⟨vp_in_nI hb (by decide), ?_⟩⟩⟩
    rw [nI_clamp (n := b) (by omega), hlb]
    refine br_t (nI_lt (by omega) (by omega)) ?_
    unfold wpX_codeAt
    rw [nn_ct]
    refine ⟨vp_in_nI (by omega) (by decide), nm_r (e' := nI 5) (by rw [nI_clamp (by omega)]; exact eo) ⟨pk_in _ 512 (by omega) (nn_a1 _) (by decide), nm_r (e' := nI A) (by rw [nn_a1, nI_clamp (by omega)]; exact ea) ⟨pk_in _ 512 (by omega) (nn_a2 _) (by decide), nm_r (e' := nI B) (by rw [nn_a2, nI_clamp (by omega)]; exact eB) ⟨pk_in _ 512 (by omega) (nn_a3 _) (by decide), nm_r (e' := nI K) (by rw [nn_a3, nI_clamp (by omega)]; exact eK) ?_⟩⟩⟩⟩
    refine br_f (by decide) (br_f (by decide) (br_f (by decide) (br_f (by decide) (br_f (by decide) (br_t (by decide) ?_)))))
    unfold wX_step_190 wpX_stepPlain
    refine ⟨pk_in _ 96 (by omega) (nn_a9 _) (by decide), nm_r (e' := nI (p + 1)) (by rw [nn_a9, nI_clamp (by omega), epc, nn_a1]) ?_⟩
    refine br_f (by decide) (br_f (by decide) (br_f (by decide) (br_f (by decide) (br_f (by decide) (br_f (by decide) (br_f (by decide) (br_t (by decide) ?_)))))))
    rw [nn_clA (by omega)]
    refine ⟨nn_inA (by omega) (by decide), br_f e ?_⟩
    unfold wX_stepPlain_119
    exact xm_169 (by omega) h
  · unfold wpY_step
    refine nm_r (e' := nI (G * 12)) (by rw [nI_pred, nn_m12]) ⟨pk_in _ 96 (by omega) (nn_a8 _) (by decide), nm_r (e' := nI b) (by rw [nn_a8, nI_clamp (by omega)]; exact ebl) ⟨pk_in _ 96 (by omega) (nn_a9 _) (by decide), nm_r (e' := nI p) (by rw [nn_a9, nI_clamp (by omega)]; exact epc) ⟨vp_in_nI hb (by decide), ?_⟩⟩⟩
    rw [nI_clamp (n := b) (by omega), hlb]
    rw [nn_ct]
    refine br_f (nI_ge (by omega) (by omega)) ⟨vp_in_nI (by omega) (by decide), ?_⟩
    rw [nI_clamp (n := (b * 32 + p) * 4) (by omega), eo]
    refine br_f (by decide) (nm_e ⟨vp_in_nI (by omega) (by decide), nm_r (e' := nI 5) (by rw [nI_clamp (by omega)]; exact eo) ⟨pk_in _ 512 (by omega) (nn_a1 _) (by decide), nm_r (e' := nI A) (by rw [nn_a1, nI_clamp (by omega)]; exact ea) ⟨pk_in _ 512 (by omega) (nn_a2 _) (by decide), nm_r (e' := nI B) (by rw [nn_a2, nI_clamp (by omega)]; exact eB) ⟨pk_in _ 512 (by omega) (nn_a3 _) (by decide), nm_r (e' := nI K) (by rw [nn_a3, nI_clamp (by omega)]; exact eK) (nm_r (nn_a1 p) ?_)⟩⟩⟩⟩)
    refine br_f (by decide) (br_f (by decide) (br_f (by decide) (br_f (by decide) (br_t (by decide) ?_))))
    rw [nn_clA (by omega)]
    exact ⟨nn_inA (by omega) (by decide), br_f e (ym_743 (by omega) h)⟩
theorem st_6a (hD : D ≤ 8) (hH : H ≤ 32) (hM : nv_M O (G + 1) U H D he fr) (hb : b < 4) (ebl : fr (G * 12 + 8) = nI b) (epc : fr (G * 12 + 9) = nI p) (hlb : ln b = nI l) (hl2 : l ≤ 32) (hp : p < l) (ea : pg ((b * 32 + p) * 4 + 1) = nI A) (eB : pg ((b * 32 + p) * 4 + 2) = nI B) (eK : pg ((b * 32 + p) * 4 + 3) = nI K) (eo : pg ((b * 32 + p) * 4) = nI 6) (hA : A < 8) (hB : B < 33) (e : fr (G * 12 + A) = -1) : nf_st G O U H D cc sel cs ec ep ms fk pn pi ln pg so ed he fr ou rc sn si sf tn ti tf := by
  have hF := hM.2.1
  have hO := hM.1
  refine ⟨ms, O, G + 1, U, he, upd fr (G * 12 + 9) (nI (p + 1)), ou, by omega, (nv_Mf hM (fun k hk q => nv_frP q (by omega))), fun post h => ?_, fun yec yep ych post h => ?_⟩
  · unfold wpX_step
    refine nm_r (e' := nI (G * 12)) (by rw [nI_pred, nn_m12]) ⟨pk_in _ 96 (by omega) (nn_a8 _) (by decide), nm_r (e' := nI b) (by rw [nn_a8, nI_clamp (by omega)]; exact ebl) ⟨pk_in _ 96 (by omega) (nn_a9 _) (by decide), nm_r (e' := nI p) (by rw [nn_a9, nI_clamp (by omega)]; exact epc) ⟨vp_in_nI hb (by decide), ?_⟩⟩⟩
    rw [nI_clamp (n := b) (by omega), hlb]
    refine br_t (nI_lt (by omega) (by omega)) ?_
    unfold wpX_codeAt
    rw [nn_ct]
    refine ⟨vp_in_nI (by omega) (by decide), nm_r (e' := nI 6) (by rw [nI_clamp (by omega)]; exact eo) ⟨pk_in _ 512 (by omega) (nn_a1 _) (by decide), nm_r (e' := nI A) (by rw [nn_a1, nI_clamp (by omega)]; exact ea) ⟨pk_in _ 512 (by omega) (nn_a2 _) (by decide), nm_r (e' := nI B) (by rw [nn_a2, nI_clamp (by omega)]; exact eB) ⟨pk_in _ 512 (by omega) (nn_a3 _) (by decide), nm_r (e' := nI K) (by rw [nn_a3, nI_clamp (by omega)]; exact eK) ?_⟩⟩⟩⟩
    refine br_f (by decide) (br_f (by decide) (br_f (by decide) (br_f (by decide) (br_f (by decide) (br_f (by decide) (br_t (by decide) ?_))))))
    unfold wX_step_190 wpX_stepPlain
    refine ⟨pk_in _ 96 (by omega) (nn_a9 _) (by decide), nm_r (e' := nI (p + 1)) (by rw [nn_a9, nI_clamp (by omega), epc, nn_a1]) ?_⟩
    refine br_f (by decide) (br_f (by decide) (br_f (by decide) (br_f (by decide) (br_f (by decide) (br_f (by decide) (br_f (by decide) (br_f (by decide) (br_t (by decide) ?_))))))))
    rw [nn_clA (by omega)]
    refine ⟨nn_inA (by omega) (by decide), br_t e ?_⟩
    unfold wX_stepPlain_143
    exact xm_169 (by omega) h
  · unfold wpY_step
    refine nm_r (e' := nI (G * 12)) (by rw [nI_pred, nn_m12]) ⟨pk_in _ 96 (by omega) (nn_a8 _) (by decide), nm_r (e' := nI b) (by rw [nn_a8, nI_clamp (by omega)]; exact ebl) ⟨pk_in _ 96 (by omega) (nn_a9 _) (by decide), nm_r (e' := nI p) (by rw [nn_a9, nI_clamp (by omega)]; exact epc) ⟨vp_in_nI hb (by decide), ?_⟩⟩⟩
    rw [nI_clamp (n := b) (by omega), hlb]
    rw [nn_ct]
    refine br_f (nI_ge (by omega) (by omega)) ⟨vp_in_nI (by omega) (by decide), ?_⟩
    rw [nI_clamp (n := (b * 32 + p) * 4) (by omega), eo]
    refine br_f (by decide) (nm_e ⟨vp_in_nI (by omega) (by decide), nm_r (e' := nI 6) (by rw [nI_clamp (by omega)]; exact eo) ⟨pk_in _ 512 (by omega) (nn_a1 _) (by decide), nm_r (e' := nI A) (by rw [nn_a1, nI_clamp (by omega)]; exact ea) ⟨pk_in _ 512 (by omega) (nn_a2 _) (by decide), nm_r (e' := nI B) (by rw [nn_a2, nI_clamp (by omega)]; exact eB) ⟨pk_in _ 512 (by omega) (nn_a3 _) (by decide), nm_r (e' := nI K) (by rw [nn_a3, nI_clamp (by omega)]; exact eK) (nm_r (nn_a1 p) ?_)⟩⟩⟩⟩)
    refine br_f (by decide) (br_f (by decide) (br_f (by decide) (br_f (by decide) (br_f (by decide) (br_t (by decide) ?_)))))
    rw [nn_clA (by omega)]
    exact ⟨nn_inA (by omega) (by decide), br_t e (ym_743 (by omega) h)⟩
theorem st_6b (hD : D ≤ 8) (hH : H ≤ 32) (hM : nv_M O (G + 1) U H D he fr) (hb : b < 4) (ebl : fr (G * 12 + 8) = nI b) (epc : fr (G * 12 + 9) = nI p) (hlb : ln b = nI l) (hl2 : l ≤ 32) (hp : p < l) (ea : pg ((b * 32 + p) * 4 + 1) = nI A) (eB : pg ((b * 32 + p) * 4 + 2) = nI B) (eK : pg ((b * 32 + p) * 4 + 3) = nI K) (eo : pg ((b * 32 + p) * 4) = nI 6) (hA : A < 8) (hB : B < 33) (e : ¬ fr (G * 12 + A) = -1) : nf_st G O U H D cc sel cs ec ep ms fk pn pi ln pg so ed he fr ou rc sn si sf tn ti tf := by
  have hF := hM.2.1
  have hO := hM.1
  refine ⟨ms, O, G + 1, U, he, upd fr (G * 12 + 9) (nI (B)), ou, by omega, (nv_Mf hM (fun k hk q => nv_frP q (by omega))), fun post h => ?_, fun yec yep ych post h => ?_⟩
  · unfold wpX_step
    refine nm_r (e' := nI (G * 12)) (by rw [nI_pred, nn_m12]) ⟨pk_in _ 96 (by omega) (nn_a8 _) (by decide), nm_r (e' := nI b) (by rw [nn_a8, nI_clamp (by omega)]; exact ebl) ⟨pk_in _ 96 (by omega) (nn_a9 _) (by decide), nm_r (e' := nI p) (by rw [nn_a9, nI_clamp (by omega)]; exact epc) ⟨vp_in_nI hb (by decide), ?_⟩⟩⟩
    rw [nI_clamp (n := b) (by omega), hlb]
    refine br_t (nI_lt (by omega) (by omega)) ?_
    unfold wpX_codeAt
    rw [nn_ct]
    refine ⟨vp_in_nI (by omega) (by decide), nm_r (e' := nI 6) (by rw [nI_clamp (by omega)]; exact eo) ⟨pk_in _ 512 (by omega) (nn_a1 _) (by decide), nm_r (e' := nI A) (by rw [nn_a1, nI_clamp (by omega)]; exact ea) ⟨pk_in _ 512 (by omega) (nn_a2 _) (by decide), nm_r (e' := nI B) (by rw [nn_a2, nI_clamp (by omega)]; exact eB) ⟨pk_in _ 512 (by omega) (nn_a3 _) (by decide), nm_r (e' := nI K) (by rw [nn_a3, nI_clamp (by omega)]; exact eK) ?_⟩⟩⟩⟩
    refine br_f (by decide) (br_f (by decide) (br_f (by decide) (br_f (by decide) (br_f (by decide) (br_f (by decide) (br_t (by decide) ?_))))))
    unfold wX_step_190 wpX_stepPlain
    refine ⟨pk_in _ 96 (by omega) (nn_a9 _) (by decide), nm_r (e' := nI (p + 1)) (by rw [nn_a9, nI_clamp (by omega), epc, nn_a1]) ?_⟩
    refine br_f (by decide) (br_f (by decide) (br_f (by decide) (br_f (by decide) (br_f (by decide) (br_f (by decide) (br_f (by decide) (br_f (by decide) (br_t (by decide) ?_))))))))
    rw [nn_clA (by omega)]
    refine ⟨nn_inA (by omega) (by decide), br_f e ?_⟩
    unfold wX_stepPlain_143
    exact xm_169 (by omega) h
  · unfold wpY_step
    refine nm_r (e' := nI (G * 12)) (by rw [nI_pred, nn_m12]) ⟨pk_in _ 96 (by omega) (nn_a8 _) (by decide), nm_r (e' := nI b) (by rw [nn_a8, nI_clamp (by omega)]; exact ebl) ⟨pk_in _ 96 (by omega) (nn_a9 _) (by decide), nm_r (e' := nI p) (by rw [nn_a9, nI_clamp (by omega)]; exact epc) ⟨vp_in_nI hb (by decide), ?_⟩⟩⟩
    rw [nI_clamp (n := b) (by omega), hlb]
    rw [nn_ct]
    refine br_f (nI_ge (by omega) (by omega)) ⟨vp_in_nI (by omega) (by decide), ?_⟩
    rw [nI_clamp (n := (b * 32 + p) * 4) (by omega), eo]
    refine br_f (by decide) (nm_e ⟨vp_in_nI (by omega) (by decide), nm_r (e' := nI 6) (by rw [nI_clamp (by omega)]; exact eo) ⟨pk_in _ 512 (by omega) (nn_a1 _) (by decide), nm_r (e' := nI A) (by rw [nn_a1, nI_clamp (by omega)]; exact ea) ⟨pk_in _ 512 (by omega) (nn_a2 _) (by decide), nm_r (e' := nI B) (by rw [nn_a2, nI_clamp (by omega)]; exact eB) ⟨pk_in _ 512 (by omega) (nn_a3 _) (by decide), nm_r (e' := nI K) (by rw [nn_a3, nI_clamp (by omega)]; exact eK) (nm_r (nn_a1 p) ?_)⟩⟩⟩⟩)
    refine br_f (by decide) (br_f (by decide) (br_f (by decide) (br_f (by decide) (br_f (by decide) (br_t (by decide) ?_)))))
    rw [nn_clA (by omega)]
    exact ⟨nn_inA (by omega) (by decide), br_f e (ym_743 (by omega) h)⟩
theorem st_9a (hD : D ≤ 8) (hH : H ≤ 32) (hM : nv_M O (G + 1) U H D he fr) (hb : b < 4) (ebl : fr (G * 12 + 8) = nI b) (epc : fr (G * 12 + 9) = nI p) (hlb : ln b = nI l) (hl2 : l ≤ 32) (hp : p < l) (ea : pg ((b * 32 + p) * 4 + 1) = nI A) (eB : pg ((b * 32 + p) * 4 + 2) = nI B) (eK : pg ((b * 32 + p) * 4 + 3) = nI K) (eo : pg ((b * 32 + p) * 4) = nI 9) (hA : A < 8) (e : 16 ≤ U) : nf_st G O U H D cc sel cs ec ep ms fk pn pi ln pg so ed he fr ou rc sn si sf tn ti tf := by
  have hF := hM.2.1
  have hO := hM.1
  have hU := hM.2.2.1
  refine ⟨ms, O, G + 1, U, he, upd fr (G * 12 + 9) (nI (p + 1)), ou, by omega, (nv_Mf hM (fun k hk q => nv_frP q (by omega))), fun post h => ?_, fun yec yep ych post h => ?_⟩
  · unfold wpX_step
    refine nm_r (e' := nI (G * 12)) (by rw [nI_pred, nn_m12]) ⟨pk_in _ 96 (by omega) (nn_a8 _) (by decide), nm_r (e' := nI b) (by rw [nn_a8, nI_clamp (by omega)]; exact ebl) ⟨pk_in _ 96 (by omega) (nn_a9 _) (by decide), nm_r (e' := nI p) (by rw [nn_a9, nI_clamp (by omega)]; exact epc) ⟨vp_in_nI hb (by decide), ?_⟩⟩⟩
    rw [nI_clamp (n := b) (by omega), hlb]
    refine br_t (nI_lt (by omega) (by omega)) ?_
    unfold wpX_codeAt
    rw [nn_ct]
    refine ⟨vp_in_nI (by omega) (by decide), nm_r (e' := nI 9) (by rw [nI_clamp (by omega)]; exact eo) ⟨pk_in _ 512 (by omega) (nn_a1 _) (by decide), nm_r (e' := nI A) (by rw [nn_a1, nI_clamp (by omega)]; exact ea) ⟨pk_in _ 512 (by omega) (nn_a2 _) (by decide), nm_r (e' := nI B) (by rw [nn_a2, nI_clamp (by omega)]; exact eB) ⟨pk_in _ 512 (by omega) (nn_a3 _) (by decide), nm_r (e' := nI K) (by rw [nn_a3, nI_clamp (by omega)]; exact eK) ?_⟩⟩⟩⟩
    refine br_f (by decide) (br_t (by decide) ?_)
    unfold wX_step_190 wpX_stepPlain
    refine ⟨pk_in _ 96 (by omega) (nn_a9 _) (by decide), nm_r (e' := nI (p + 1)) (by rw [nn_a9, nI_clamp (by omega), epc, nn_a1]) ?_⟩
    refine br_f (by decide) (br_f (by decide) (br_f (by decide) (br_f (by decide) (br_f (by decide) (br_f (by decide) (br_f (by decide) (br_f (by decide) (br_f (by decide) (br_f (by decide) (br_f (by decide) (br_t (by decide) ?_)))))))))))
    refine ⟨nn_inA (by omega) (by decide), ?_⟩
    unfold wpX_appendOutput
    exact br_t ((nl_ge16 (by omega)).mpr e) (xm_169 (by omega) h)
  · unfold wpY_step
    refine nm_r (e' := nI (G * 12)) (by rw [nI_pred, nn_m12]) ⟨pk_in _ 96 (by omega) (nn_a8 _) (by decide), nm_r (e' := nI b) (by rw [nn_a8, nI_clamp (by omega)]; exact ebl) ⟨pk_in _ 96 (by omega) (nn_a9 _) (by decide), nm_r (e' := nI p) (by rw [nn_a9, nI_clamp (by omega)]; exact epc) ⟨vp_in_nI hb (by decide), ?_⟩⟩⟩
    rw [nI_clamp (n := b) (by omega), hlb]
    rw [nn_ct]
    refine br_f (nI_ge (by omega) (by omega)) ⟨vp_in_nI (by omega) (by decide), ?_⟩
    rw [nI_clamp (n := (b * 32 + p) * 4) (by omega), eo]
    refine br_f (by decide) (nm_e ⟨vp_in_nI (by omega) (by decide), nm_r (e' := nI 9) (by rw [nI_clamp (by omega)]; exact eo) ⟨pk_in _ 512 (by omega) (nn_a1 _) (by decide), nm_r (e' := nI A) (by rw [nn_a1, nI_clamp (by omega)]; exact ea) ⟨pk_in _ 512 (by omega) (nn_a2 _) (by decide), nm_r (e' := nI B) (by rw [nn_a2, nI_clamp (by omega)]; exact eB) ⟨pk_in _ 512 (by omega) (nn_a3 _) (by decide), nm_r (e' := nI K) (by rw [nn_a3, nI_clamp (by omega)]; exact eK) (nm_r (nn_a1 p) ?_)⟩⟩⟩⟩)
    refine br_f (by decide) (br_f (by decide) (br_t (by decide) ?_))
    exact br_t ((nl_ge16 (by omega)).mpr e) (ym_743 (by omega) h)
theorem st_9b (hD : D ≤ 8) (hH : H ≤ 32) (hM : nv_M O (G + 1) U H D he fr) (hb : b < 4) (ebl : fr (G * 12 + 8) = nI b) (epc : fr (G * 12 + 9) = nI p) (hlb : ln b = nI l) (hl2 : l ≤ 32) (hp : p < l) (ea : pg ((b * 32 + p) * 4 + 1) = nI A) (eB : pg ((b * 32 + p) * 4 + 2) = nI B) (eK : pg ((b * 32 + p) * 4 + 3) = nI K) (eo : pg ((b * 32 + p) * 4) = nI 9) (hA : A < 8) (e : U < 16) : nf_st G O U H D cc sel cs ec ep ms fk pn pi ln pg so ed he fr ou rc sn si sf tn ti tf := by
  have hF := hM.2.1
  have hO := hM.1
  refine ⟨ms, O, G + 1, U + 1, he, upd fr (G * 12 + 9) (nI (p + 1)), upd ou U (fr (G * 12 + A)), by omega, (nv_Mu (nv_Mf hM (fun k hk q => nv_frP q (by omega))) (by omega)), fun post h => ?_, fun yec yep ych post h => ?_⟩
  · unfold wpX_step
    refine nm_r (e' := nI (G * 12)) (by rw [nI_pred, nn_m12]) ⟨pk_in _ 96 (by omega) (nn_a8 _) (by decide), nm_r (e' := nI b) (by rw [nn_a8, nI_clamp (by omega)]; exact ebl) ⟨pk_in _ 96 (by omega) (nn_a9 _) (by decide), nm_r (e' := nI p) (by rw [nn_a9, nI_clamp (by omega)]; exact epc) ⟨vp_in_nI hb (by decide), ?_⟩⟩⟩
    rw [nI_clamp (n := b) (by omega), hlb]
    refine br_t (nI_lt (by omega) (by omega)) ?_
    unfold wpX_codeAt
    rw [nn_ct]
    refine ⟨vp_in_nI (by omega) (by decide), nm_r (e' := nI 9) (by rw [nI_clamp (by omega)]; exact eo) ⟨pk_in _ 512 (by omega) (nn_a1 _) (by decide), nm_r (e' := nI A) (by rw [nn_a1, nI_clamp (by omega)]; exact ea) ⟨pk_in _ 512 (by omega) (nn_a2 _) (by decide), nm_r (e' := nI B) (by rw [nn_a2, nI_clamp (by omega)]; exact eB) ⟨pk_in _ 512 (by omega) (nn_a3 _) (by decide), nm_r (e' := nI K) (by rw [nn_a3, nI_clamp (by omega)]; exact eK) ?_⟩⟩⟩⟩
    refine br_f (by decide) (br_t (by decide) ?_)
    unfold wX_step_190 wpX_stepPlain
    refine ⟨pk_in _ 96 (by omega) (nn_a9 _) (by decide), nm_r (e' := nI (p + 1)) (by rw [nn_a9, nI_clamp (by omega), epc, nn_a1]) ?_⟩
    refine br_f (by decide) (br_f (by decide) (br_f (by decide) (br_f (by decide) (br_f (by decide) (br_f (by decide) (br_f (by decide) (br_f (by decide) (br_f (by decide) (br_f (by decide) (br_f (by decide) (br_t (by decide) ?_)))))))))))
    rw [nn_clA (by omega)]
    refine ⟨nn_inA (by omega) (by decide), ?_⟩
    unfold wpX_appendOutput
    exact br_f (fun q => by have := (nl_ge16 (by omega)).mp q; omega) ⟨vp_in_nI e (by decide), nm_r (e' := upd ou U (fr (G * 12 + A))) (by rw [nI_clamp (by omega)]) (nm_r (nn_a1 U) (xm_169 (by omega) h))⟩
  · unfold wpY_step
    refine nm_r (e' := nI (G * 12)) (by rw [nI_pred, nn_m12]) ⟨pk_in _ 96 (by omega) (nn_a8 _) (by decide), nm_r (e' := nI b) (by rw [nn_a8, nI_clamp (by omega)]; exact ebl) ⟨pk_in _ 96 (by omega) (nn_a9 _) (by decide), nm_r (e' := nI p) (by rw [nn_a9, nI_clamp (by omega)]; exact epc) ⟨vp_in_nI hb (by decide), ?_⟩⟩⟩
    rw [nI_clamp (n := b) (by omega), hlb]
    rw [nn_ct]
    refine br_f (nI_ge (by omega) (by omega)) ⟨vp_in_nI (by omega) (by decide), ?_⟩
    rw [nI_clamp (n := (b * 32 + p) * 4) (by omega), eo]
    refine br_f (by decide) (nm_e ⟨vp_in_nI (by omega) (by decide), nm_r (e' := nI 9) (by rw [nI_clamp (by omega)]; exact eo) ⟨pk_in _ 512 (by omega) (nn_a1 _) (by decide), nm_r (e' := nI A) (by rw [nn_a1, nI_clamp (by omega)]; exact ea) ⟨pk_in _ 512 (by omega) (nn_a2 _) (by decide), nm_r (e' := nI B) (by rw [nn_a2, nI_clamp (by omega)]; exact eB) ⟨pk_in _ 512 (by omega) (nn_a3 _) (by decide), nm_r (e' := nI K) (by rw [nn_a3, nI_clamp (by omega)]; exact eK) (nm_r (nn_a1 p) ?_)⟩⟩⟩⟩)
    refine br_f (by decide) (br_f (by decide) (br_t (by decide) ?_))
    rw [nn_clA (by omega), nI_clamp (n := U) (by omega)]
    exact br_f (fun q => by have := (nl_ge16 (by omega)).mp q; omega) ⟨nn_inA (by omega) (by decide), vp_in_nI e (by decide), nm_e (nm_r (nn_a1 U) (ym_743 (by omega) h))⟩
theorem st_3a (hD : D ≤ 8) (hH : H ≤ 32) (hM : nv_M O (G + 1) U H D he fr) (hb : b < 4) (ebl : fr (G * 12 + 8) = nI b) (epc : fr (G * 12 + 9) = nI p) (hlb : ln b = nI l) (hl2 : l ≤ 32) (hp : p < l) (ea : pg ((b * 32 + p) * 4 + 1) = nI A) (eB : pg ((b * 32 + p) * 4 + 2) = nI B) (eK : pg ((b * 32 + p) * 4 + 3) = nI K) (eo : pg ((b * 32 + p) * 4) = nI 3) (hA : A < 8) (hB : B < 8) (hK : K < 4) (e : fr (G * 12 + B) = -1) : nf_st G O U H D cc sel cs ec ep ms fk pn pi ln pg so ed he fr ou rc sn si sf tn ti tf := by
  have hF := hM.2.1
  have hO := hM.1
  refine ⟨23, O, G + 1, U, he, fr, ou, by omega, hM, fun post h => ?_, fun yec yep ych post h => ?_⟩
  · unfold wpX_step
    refine nm_r (e' := nI (G * 12)) (by rw [nI_pred, nn_m12]) ⟨pk_in _ 96 (by omega) (nn_a8 _) (by decide), nm_r (e' := nI b) (by rw [nn_a8, nI_clamp (by omega)]; exact ebl) ⟨pk_in _ 96 (by omega) (nn_a9 _) (by decide), nm_r (e' := nI p) (by rw [nn_a9, nI_clamp (by omega)]; exact epc) ⟨vp_in_nI hb (by decide), ?_⟩⟩⟩
    rw [nI_clamp (n := b) (by omega), hlb]
    refine br_t (nI_lt (by omega) (by omega)) ?_
    unfold wpX_codeAt
    rw [nn_ct]
    refine ⟨vp_in_nI (by omega) (by decide), nm_r (e' := nI 3) (by rw [nI_clamp (by omega)]; exact eo) ⟨pk_in _ 512 (by omega) (nn_a1 _) (by decide), nm_r (e' := nI A) (by rw [nn_a1, nI_clamp (by omega)]; exact ea) ⟨pk_in _ 512 (by omega) (nn_a2 _) (by decide), nm_r (e' := nI B) (by rw [nn_a2, nI_clamp (by omega)]; exact eB) ⟨pk_in _ 512 (by omega) (nn_a3 _) (by decide), nm_r (e' := nI K) (by rw [nn_a3, nI_clamp (by omega)]; exact eK) ?_⟩⟩⟩⟩
    refine br_f (by decide) (br_f (by decide) (br_f (by decide) (br_t (by decide) ?_)))
    unfold wpX_stepGet
    rw [nn_clA (a := G * 12) (b := B) (by omega)]
    exact ⟨nn_inA (by omega) (by decide), nm_r e (br_t rfl h)⟩
  · unfold wpY_step
    refine nm_r (e' := nI (G * 12)) (by rw [nI_pred, nn_m12]) ⟨pk_in _ 96 (by omega) (nn_a8 _) (by decide), nm_r (e' := nI b) (by rw [nn_a8, nI_clamp (by omega)]; exact ebl) ⟨pk_in _ 96 (by omega) (nn_a9 _) (by decide), nm_r (e' := nI p) (by rw [nn_a9, nI_clamp (by omega)]; exact epc) ⟨vp_in_nI hb (by decide), ?_⟩⟩⟩
    rw [nI_clamp (n := b) (by omega), hlb]
    rw [nn_ct]
    refine br_f (nI_ge (by omega) (by omega)) ⟨vp_in_nI (by omega) (by decide), ?_⟩
    rw [nI_clamp (n := (b * 32 + p) * 4) (by omega), eo]
    refine br_f (by decide) (nm_e ⟨vp_in_nI (by omega) (by decide), nm_r (e' := nI 3) (by rw [nI_clamp (by omega)]; exact eo) ⟨pk_in _ 512 (by omega) (nn_a1 _) (by decide), nm_r (e' := nI A) (by rw [nn_a1, nI_clamp (by omega)]; exact ea) ⟨pk_in _ 512 (by omega) (nn_a2 _) (by decide), nm_r (e' := nI B) (by rw [nn_a2, nI_clamp (by omega)]; exact eB) ⟨pk_in _ 512 (by omega) (nn_a3 _) (by decide), nm_r (e' := nI K) (by rw [nn_a3, nI_clamp (by omega)]; exact eK) (nm_r (nn_a1 p) ?_)⟩⟩⟩⟩)
    refine br_f (by decide) (br_f (by decide) (br_f (by decide) (br_f (by decide) (br_f (by decide) (br_f (by decide) (br_t (by decide) ?_))))))
    rw [nn_clA (a := G * 12) (b := B) (by omega)]
    exact ⟨nn_inA (by omega) (by decide), nm_r e (br_f (by decide) h)⟩
theorem st_3b (hD : D ≤ 8) (hH : H ≤ 32) (hM : nv_M O (G + 1) U H D he fr) (hb : b < 4) (ebl : fr (G * 12 + 8) = nI b) (epc : fr (G * 12 + 9) = nI p) (hlb : ln b = nI l) (hl2 : l ≤ 32) (hp : p < l) (ea : pg ((b * 32 + p) * 4 + 1) = nI A) (eB : pg ((b * 32 + p) * 4 + 2) = nI B) (eK : pg ((b * 32 + p) * 4 + 3) = nI K) (eo : pg ((b * 32 + p) * 4) = nI 3) (hA : A < 8) (hB : B < 8) (hK : K < 4) {q : Nat} (hq : q < O) (e : fr (G * 12 + B) = nI q) (e2 : he (q * 4 + K) = -1) (e3 : fk K = 0) : nf_st G O U H D cc sel cs ec ep ms fk pn pi ln pg so ed he fr ou rc sn si sf tn ti tf := by
  have hF := hM.2.1
  have hO := hM.1
  have c4 : (nI (q * 4) + nI K).toNatClampNeg = q * 4 + K := nn_clA (by omega)
  have v4 : vp_in (nI (q * 4) + nI K) 128 := nn_inA (by omega) (by decide)
  refine ⟨24, O, G + 1, U, he, fr, ou, by omega, hM, fun post h => ?_, fun yec yep ych post h => ?_⟩
  · unfold wpX_step
    refine nm_r (e' := nI (G * 12)) (by rw [nI_pred, nn_m12]) ⟨pk_in _ 96 (by omega) (nn_a8 _) (by decide), nm_r (e' := nI b) (by rw [nn_a8, nI_clamp (by omega)]; exact ebl) ⟨pk_in _ 96 (by omega) (nn_a9 _) (by decide), nm_r (e' := nI p) (by rw [nn_a9, nI_clamp (by omega)]; exact epc) ⟨vp_in_nI hb (by decide), ?_⟩⟩⟩
    rw [nI_clamp (n := b) (by omega), hlb]
    refine br_t (nI_lt (by omega) (by omega)) ?_
    unfold wpX_codeAt
    rw [nn_ct]
    refine ⟨vp_in_nI (by omega) (by decide), nm_r (e' := nI 3) (by rw [nI_clamp (by omega)]; exact eo) ⟨pk_in _ 512 (by omega) (nn_a1 _) (by decide), nm_r (e' := nI A) (by rw [nn_a1, nI_clamp (by omega)]; exact ea) ⟨pk_in _ 512 (by omega) (nn_a2 _) (by decide), nm_r (e' := nI B) (by rw [nn_a2, nI_clamp (by omega)]; exact eB) ⟨pk_in _ 512 (by omega) (nn_a3 _) (by decide), nm_r (e' := nI K) (by rw [nn_a3, nI_clamp (by omega)]; exact eK) ?_⟩⟩⟩⟩
    refine br_f (by decide) (br_f (by decide) (br_f (by decide) (br_t (by decide) ?_)))
    unfold wpX_stepGet
    rw [nn_clA (a := G * 12) (b := B) (by omega)]
    refine ⟨nn_inA (by omega) (by decide), nm_r e (br_f (nc_m1 (by omega)) ?_)⟩
    rw [nn_m4, c4]
    refine ⟨v4, nm_r e2 (br_t rfl ⟨vp_in_nI hK (by decide), ?_⟩)⟩
    rw [nI_clamp (n := K) (by omega)]
    exact br_t e3 h
  · unfold wpY_step
    refine nm_r (e' := nI (G * 12)) (by rw [nI_pred, nn_m12]) ⟨pk_in _ 96 (by omega) (nn_a8 _) (by decide), nm_r (e' := nI b) (by rw [nn_a8, nI_clamp (by omega)]; exact ebl) ⟨pk_in _ 96 (by omega) (nn_a9 _) (by decide), nm_r (e' := nI p) (by rw [nn_a9, nI_clamp (by omega)]; exact epc) ⟨vp_in_nI hb (by decide), ?_⟩⟩⟩
    rw [nI_clamp (n := b) (by omega), hlb]
    rw [nn_ct]
    refine br_f (nI_ge (by omega) (by omega)) ⟨vp_in_nI (by omega) (by decide), ?_⟩
    rw [nI_clamp (n := (b * 32 + p) * 4) (by omega), eo]
    refine br_f (by decide) (nm_e ⟨vp_in_nI (by omega) (by decide), nm_r (e' := nI 3) (by rw [nI_clamp (by omega)]; exact eo) ⟨pk_in _ 512 (by omega) (nn_a1 _) (by decide), nm_r (e' := nI A) (by rw [nn_a1, nI_clamp (by omega)]; exact ea) ⟨pk_in _ 512 (by omega) (nn_a2 _) (by decide), nm_r (e' := nI B) (by rw [nn_a2, nI_clamp (by omega)]; exact eB) ⟨pk_in _ 512 (by omega) (nn_a3 _) (by decide), nm_r (e' := nI K) (by rw [nn_a3, nI_clamp (by omega)]; exact eK) (nm_r (nn_a1 p) ?_)⟩⟩⟩⟩)
    refine br_f (by decide) (br_f (by decide) (br_f (by decide) (br_f (by decide) (br_f (by decide) (br_f (by decide) (br_t (by decide) ?_))))))
    rw [nn_clA (a := G * 12) (b := B) (by omega)]
    refine ⟨nn_inA (by omega) (by decide), nm_r e (br_t (nI_pos' (by omega)) ?_)⟩
    rw [nn_m4, c4]
    refine ⟨v4, nm_r e2 (br_f (by decide) ⟨vp_in_nI hK (by decide), ?_⟩)⟩
    rw [nI_clamp (n := K) (by omega)]
    exact br_t e3 h
theorem st_3c (hD : D ≤ 8) (hH : H ≤ 32) (hM : nv_M O (G + 1) U H D he fr) (hb : b < 4) (ebl : fr (G * 12 + 8) = nI b) (epc : fr (G * 12 + 9) = nI p) (hlb : ln b = nI l) (hl2 : l ≤ 32) (hp : p < l) (ea : pg ((b * 32 + p) * 4 + 1) = nI A) (eB : pg ((b * 32 + p) * 4 + 2) = nI B) (eK : pg ((b * 32 + p) * 4 + 3) = nI K) (eo : pg ((b * 32 + p) * 4) = nI 3) (hA : A < 8) (hB : B < 8) (hK : K < 4) {q : Nat} (hq : q < O) (e : fr (G * 12 + B) = nI q) (e2 : he (q * 4 + K) = -1) (e3 : ¬ fk K = 0) : nf_st G O U H D cc sel cs ec ep ms fk pn pi ln pg so ed he fr ou rc sn si sf tn ti tf := by
  have hF := hM.2.1
  have hO := hM.1
  have c4 : (nI (q * 4) + nI K).toNatClampNeg = q * 4 + K := nn_clA (by omega)
  have v4 : vp_in (nI (q * 4) + nI K) 128 := nn_inA (by omega) (by decide)
  refine ⟨ms, O, G + 1, U, he, upd (upd fr (G * 12 + A) (he (q * 4 + K))) (G * 12 + 9) (nI (p + 1)), ou, by omega, (nv_Mf hM (fun k hk z => nv_frP (nv_frL z hA (hM.2.2.2.1 _ (by omega))) (by omega))), fun post h => ?_, fun yec yep ych post h => ?_⟩
  · unfold wpX_step
    refine nm_r (e' := nI (G * 12)) (by rw [nI_pred, nn_m12]) ⟨pk_in _ 96 (by omega) (nn_a8 _) (by decide), nm_r (e' := nI b) (by rw [nn_a8, nI_clamp (by omega)]; exact ebl) ⟨pk_in _ 96 (by omega) (nn_a9 _) (by decide), nm_r (e' := nI p) (by rw [nn_a9, nI_clamp (by omega)]; exact epc) ⟨vp_in_nI hb (by decide), ?_⟩⟩⟩
    rw [nI_clamp (n := b) (by omega), hlb]
    refine br_t (nI_lt (by omega) (by omega)) ?_
    unfold wpX_codeAt
    rw [nn_ct]
    refine ⟨vp_in_nI (by omega) (by decide), nm_r (e' := nI 3) (by rw [nI_clamp (by omega)]; exact eo) ⟨pk_in _ 512 (by omega) (nn_a1 _) (by decide), nm_r (e' := nI A) (by rw [nn_a1, nI_clamp (by omega)]; exact ea) ⟨pk_in _ 512 (by omega) (nn_a2 _) (by decide), nm_r (e' := nI B) (by rw [nn_a2, nI_clamp (by omega)]; exact eB) ⟨pk_in _ 512 (by omega) (nn_a3 _) (by decide), nm_r (e' := nI K) (by rw [nn_a3, nI_clamp (by omega)]; exact eK) ?_⟩⟩⟩⟩
    refine br_f (by decide) (br_f (by decide) (br_f (by decide) (br_t (by decide) ?_)))
    unfold wpX_stepGet
    rw [nn_clA (a := G * 12) (b := B) (by omega)]
    refine ⟨nn_inA (by omega) (by decide), nm_r e (br_f (nc_m1 (by omega)) ?_)⟩
    rw [nn_m4, c4]
    refine ⟨v4, nm_e (br_t e2 ⟨vp_in_nI hK (by decide), ?_⟩)⟩
    rw [nI_clamp (n := K) (by omega)]
    refine br_f e3 ?_
    unfold wX_stepGet_60
    rw [nn_clA (a := G * 12) (b := A) (by omega), nn_a9, nI_clamp (n := G * 12 + 9) (by omega)]
    refine ⟨nn_inA (by omega) (by decide), nm_e ⟨vp_in_nI (by omega) (by decide), vp_in_nI (by omega) (by decide), nm_r ?_ h⟩⟩
    rw [pk_un (by omega), epc, nn_a1]
  · unfold wpY_step
    refine nm_r (e' := nI (G * 12)) (by rw [nI_pred, nn_m12]) ⟨pk_in _ 96 (by omega) (nn_a8 _) (by decide), nm_r (e' := nI b) (by rw [nn_a8, nI_clamp (by omega)]; exact ebl) ⟨pk_in _ 96 (by omega) (nn_a9 _) (by decide), nm_r (e' := nI p) (by rw [nn_a9, nI_clamp (by omega)]; exact epc) ⟨vp_in_nI hb (by decide), ?_⟩⟩⟩
    rw [nI_clamp (n := b) (by omega), hlb]
    rw [nn_ct]
    refine br_f (nI_ge (by omega) (by omega)) ⟨vp_in_nI (by omega) (by decide), ?_⟩
    rw [nI_clamp (n := (b * 32 + p) * 4) (by omega), eo]
    refine br_f (by decide) (nm_e ⟨vp_in_nI (by omega) (by decide), nm_r (e' := nI 3) (by rw [nI_clamp (by omega)]; exact eo) ⟨pk_in _ 512 (by omega) (nn_a1 _) (by decide), nm_r (e' := nI A) (by rw [nn_a1, nI_clamp (by omega)]; exact ea) ⟨pk_in _ 512 (by omega) (nn_a2 _) (by decide), nm_r (e' := nI B) (by rw [nn_a2, nI_clamp (by omega)]; exact eB) ⟨pk_in _ 512 (by omega) (nn_a3 _) (by decide), nm_r (e' := nI K) (by rw [nn_a3, nI_clamp (by omega)]; exact eK) (nm_r (nn_a1 p) ?_)⟩⟩⟩⟩)
    refine br_f (by decide) (br_f (by decide) (br_f (by decide) (br_f (by decide) (br_f (by decide) (br_f (by decide) (br_t (by decide) ?_))))))
    rw [nn_clA (a := G * 12) (b := B) (by omega)]
    have Z : wY_step_406 post (nI (G * 12)) (nI A) (nI (p + 1)) (he (q * 4 + K)) cc (nI H) (nI D) sel yec yep cs ms (nI O) (nI U) (nI (G + 1)) ych fk pn pi ln pg rc sn si sf tn ti tf he ou fr := by
      unfold wY_step_406
      rw [nn_clA (a := G * 12) (b := A) (by omega)]
      exact ⟨nn_inA (by omega) (by decide), nm_e (ym_743 (by omega) h)⟩
    refine ⟨nn_inA (by omega) (by decide), nm_r e (br_t (nI_pos' (by omega)) ?_)⟩
    rw [nn_m4, c4]
    refine ⟨v4, nm_e (br_f (by rw [e2]; decide) ⟨vp_in_nI hK (by decide), ?_⟩)⟩
    rw [nI_clamp (n := K) (by omega)]
    exact br_f e3 Z
theorem st_3d (hD : D ≤ 8) (hH : H ≤ 32) (hM : nv_M O (G + 1) U H D he fr) (hb : b < 4) (ebl : fr (G * 12 + 8) = nI b) (epc : fr (G * 12 + 9) = nI p) (hlb : ln b = nI l) (hl2 : l ≤ 32) (hp : p < l) (ea : pg ((b * 32 + p) * 4 + 1) = nI A) (eB : pg ((b * 32 + p) * 4 + 2) = nI B) (eK : pg ((b * 32 + p) * 4 + 3) = nI K) (eo : pg ((b * 32 + p) * 4) = nI 3) (hA : A < 8) (hB : B < 8) (hK : K < 4) {q r : Nat} (hq : q < O) (e : fr (G * 12 + B) = nI q) (hr : r < O) (e2 : he (q * 4 + K) = nI r) : nf_st G O U H D cc sel cs ec ep ms fk pn pi ln pg so ed he fr ou rc sn si sf tn ti tf := by
  have hF := hM.2.1
  have hO := hM.1
  have c4 : (nI (q * 4) + nI K).toNatClampNeg = q * 4 + K := nn_clA (by omega)
  have v4 : vp_in (nI (q * 4) + nI K) 128 := nn_inA (by omega) (by decide)
  refine ⟨ms, O, G + 1, U, he, upd (upd fr (G * 12 + A) (he (q * 4 + K))) (G * 12 + 9) (nI (p + 1)), ou, by omega, (nv_Mf hM (fun k hk z => nv_frP (nv_frL z hA (hM.2.2.2.1 _ (by omega))) (by omega))), fun post h => ?_, fun yec yep ych post h => ?_⟩
  · unfold wpX_step
    refine nm_r (e' := nI (G * 12)) (by rw [nI_pred, nn_m12]) ⟨pk_in _ 96 (by omega) (nn_a8 _) (by decide), nm_r (e' := nI b) (by rw [nn_a8, nI_clamp (by omega)]; exact ebl) ⟨pk_in _ 96 (by omega) (nn_a9 _) (by decide), nm_r (e' := nI p) (by rw [nn_a9, nI_clamp (by omega)]; exact epc) ⟨vp_in_nI hb (by decide), ?_⟩⟩⟩
    rw [nI_clamp (n := b) (by omega), hlb]
    refine br_t (nI_lt (by omega) (by omega)) ?_
    unfold wpX_codeAt
    rw [nn_ct]
    refine ⟨vp_in_nI (by omega) (by decide), nm_r (e' := nI 3) (by rw [nI_clamp (by omega)]; exact eo) ⟨pk_in _ 512 (by omega) (nn_a1 _) (by decide), nm_r (e' := nI A) (by rw [nn_a1, nI_clamp (by omega)]; exact ea) ⟨pk_in _ 512 (by omega) (nn_a2 _) (by decide), nm_r (e' := nI B) (by rw [nn_a2, nI_clamp (by omega)]; exact eB) ⟨pk_in _ 512 (by omega) (nn_a3 _) (by decide), nm_r (e' := nI K) (by rw [nn_a3, nI_clamp (by omega)]; exact eK) ?_⟩⟩⟩⟩
    refine br_f (by decide) (br_f (by decide) (br_f (by decide) (br_t (by decide) ?_)))
    unfold wpX_stepGet
    rw [nn_clA (a := G * 12) (b := B) (by omega)]
    refine ⟨nn_inA (by omega) (by decide), nm_r e (br_f (nc_m1 (by omega)) ?_)⟩
    rw [nn_m4, c4]
    refine ⟨v4, nm_e (br_f (by rw [e2]; exact nc_m1 (by omega)) ?_)⟩
    unfold wX_stepGet_60
    rw [nn_clA (a := G * 12) (b := A) (by omega), nn_a9, nI_clamp (n := G * 12 + 9) (by omega)]
    refine ⟨nn_inA (by omega) (by decide), nm_e ⟨vp_in_nI (by omega) (by decide), vp_in_nI (by omega) (by decide), nm_r ?_ h⟩⟩
    rw [pk_un (by omega), epc, nn_a1]
  · unfold wpY_step
    refine nm_r (e' := nI (G * 12)) (by rw [nI_pred, nn_m12]) ⟨pk_in _ 96 (by omega) (nn_a8 _) (by decide), nm_r (e' := nI b) (by rw [nn_a8, nI_clamp (by omega)]; exact ebl) ⟨pk_in _ 96 (by omega) (nn_a9 _) (by decide), nm_r (e' := nI p) (by rw [nn_a9, nI_clamp (by omega)]; exact epc) ⟨vp_in_nI hb (by decide), ?_⟩⟩⟩
    rw [nI_clamp (n := b) (by omega), hlb]
    rw [nn_ct]
    refine br_f (nI_ge (by omega) (by omega)) ⟨vp_in_nI (by omega) (by decide), ?_⟩
    rw [nI_clamp (n := (b * 32 + p) * 4) (by omega), eo]
    refine br_f (by decide) (nm_e ⟨vp_in_nI (by omega) (by decide), nm_r (e' := nI 3) (by rw [nI_clamp (by omega)]; exact eo) ⟨pk_in _ 512 (by omega) (nn_a1 _) (by decide), nm_r (e' := nI A) (by rw [nn_a1, nI_clamp (by omega)]; exact ea) ⟨pk_in _ 512 (by omega) (nn_a2 _) (by decide), nm_r (e' := nI B) (by rw [nn_a2, nI_clamp (by omega)]; exact eB) ⟨pk_in _ 512 (by omega) (nn_a3 _) (by decide), nm_r (e' := nI K) (by rw [nn_a3, nI_clamp (by omega)]; exact eK) (nm_r (nn_a1 p) ?_)⟩⟩⟩⟩)
    refine br_f (by decide) (br_f (by decide) (br_f (by decide) (br_f (by decide) (br_f (by decide) (br_f (by decide) (br_t (by decide) ?_))))))
    rw [nn_clA (a := G * 12) (b := B) (by omega)]
    have Z : wY_step_406 post (nI (G * 12)) (nI A) (nI (p + 1)) (he (q * 4 + K)) cc (nI H) (nI D) sel yec yep cs ms (nI O) (nI U) (nI (G + 1)) ych fk pn pi ln pg rc sn si sf tn ti tf he ou fr := by
      unfold wY_step_406
      rw [nn_clA (a := G * 12) (b := A) (by omega)]
      exact ⟨nn_inA (by omega) (by decide), nm_e (ym_743 (by omega) h)⟩
    refine ⟨nn_inA (by omega) (by decide), nm_r e (br_t (nI_pos' (by omega)) ?_)⟩
    rw [nn_m4, c4]
    exact ⟨v4, nm_e (br_t (by rw [e2]; exact nI_pos' (by omega)) Z)⟩
theorem st_4a (hD : D ≤ 8) (hH : H ≤ 32) (hM : nv_M O (G + 1) U H D he fr) (hb : b < 4) (ebl : fr (G * 12 + 8) = nI b) (epc : fr (G * 12 + 9) = nI p) (hlb : ln b = nI l) (hl2 : l ≤ 32) (hp : p < l) (ea : pg ((b * 32 + p) * 4 + 1) = nI A) (eB : pg ((b * 32 + p) * 4 + 2) = nI B) (eK : pg ((b * 32 + p) * 4 + 3) = nI K) (eo : pg ((b * 32 + p) * 4) = nI 4) (hA : A < 8) (hB : B < 4) (hK : K < 8) (e : fr (G * 12 + A) = -1) : nf_st G O U H D cc sel cs ec ep ms fk pn pi ln pg so ed he fr ou rc sn si sf tn ti tf := by
  have hF := hM.2.1
  have hO := hM.1
  refine ⟨23, O, G + 1, U, he, fr, ou, by omega, hM, fun post h => ?_, fun yec yep ych post h => ?_⟩
  · unfold wpX_step
    refine nm_r (e' := nI (G * 12)) (by rw [nI_pred, nn_m12]) ⟨pk_in _ 96 (by omega) (nn_a8 _) (by decide), nm_r (e' := nI b) (by rw [nn_a8, nI_clamp (by omega)]; exact ebl) ⟨pk_in _ 96 (by omega) (nn_a9 _) (by decide), nm_r (e' := nI p) (by rw [nn_a9, nI_clamp (by omega)]; exact epc) ⟨vp_in_nI hb (by decide), ?_⟩⟩⟩
    rw [nI_clamp (n := b) (by omega), hlb]
    refine br_t (nI_lt (by omega) (by omega)) ?_
    unfold wpX_codeAt
    rw [nn_ct]
    refine ⟨vp_in_nI (by omega) (by decide), nm_r (e' := nI 4) (by rw [nI_clamp (by omega)]; exact eo) ⟨pk_in _ 512 (by omega) (nn_a1 _) (by decide), nm_r (e' := nI A) (by rw [nn_a1, nI_clamp (by omega)]; exact ea) ⟨pk_in _ 512 (by omega) (nn_a2 _) (by decide), nm_r (e' := nI B) (by rw [nn_a2, nI_clamp (by omega)]; exact eB) ⟨pk_in _ 512 (by omega) (nn_a3 _) (by decide), nm_r (e' := nI K) (by rw [nn_a3, nI_clamp (by omega)]; exact eK) ?_⟩⟩⟩⟩
    refine br_f (by decide) (br_f (by decide) (br_f (by decide) (br_f (by decide) (br_t (by decide) ?_))))
    unfold wpX_stepPut
    rw [nn_clA (a := G * 12) (b := A) (by omega), nn_clA (a := G * 12) (b := K) (by omega)]
    exact ⟨nn_inA (by omega) (by decide), nm_r e ⟨nn_inA (by omega) (by decide), nm_e (br_t rfl h)⟩⟩
  · unfold wpY_step
    refine nm_r (e' := nI (G * 12)) (by rw [nI_pred, nn_m12]) ⟨pk_in _ 96 (by omega) (nn_a8 _) (by decide), nm_r (e' := nI b) (by rw [nn_a8, nI_clamp (by omega)]; exact ebl) ⟨pk_in _ 96 (by omega) (nn_a9 _) (by decide), nm_r (e' := nI p) (by rw [nn_a9, nI_clamp (by omega)]; exact epc) ⟨vp_in_nI hb (by decide), ?_⟩⟩⟩
    rw [nI_clamp (n := b) (by omega), hlb]
    rw [nn_ct]
    refine br_f (nI_ge (by omega) (by omega)) ⟨vp_in_nI (by omega) (by decide), ?_⟩
    rw [nI_clamp (n := (b * 32 + p) * 4) (by omega), eo]
    refine br_f (by decide) (nm_e ⟨vp_in_nI (by omega) (by decide), nm_r (e' := nI 4) (by rw [nI_clamp (by omega)]; exact eo) ⟨pk_in _ 512 (by omega) (nn_a1 _) (by decide), nm_r (e' := nI A) (by rw [nn_a1, nI_clamp (by omega)]; exact ea) ⟨pk_in _ 512 (by omega) (nn_a2 _) (by decide), nm_r (e' := nI B) (by rw [nn_a2, nI_clamp (by omega)]; exact eB) ⟨pk_in _ 512 (by omega) (nn_a3 _) (by decide), nm_r (e' := nI K) (by rw [nn_a3, nI_clamp (by omega)]; exact eK) (nm_r (nn_a1 p) ?_)⟩⟩⟩⟩)
    refine br_f (by decide) (br_f (by decide) (br_f (by decide) (br_f (by decide) (br_f (by decide) (br_f (by decide) (br_f (by decide) (br_t (by decide) ?_)))))))
    rw [nn_clA (a := G * 12) (b := A) (by omega), nn_clA (a := G * 12) (b := K) (by omega)]
    exact ⟨nn_inA (by omega) (by decide), nm_r e ⟨nn_inA (by omega) (by decide), nm_e (br_f (by decide) h)⟩⟩
theorem st_4b (hD : D ≤ 8) (hH : H ≤ 32) (hM : nv_M O (G + 1) U H D he fr) (hb : b < 4) (ebl : fr (G * 12 + 8) = nI b) (epc : fr (G * 12 + 9) = nI p) (hlb : ln b = nI l) (hl2 : l ≤ 32) (hp : p < l) (ea : pg ((b * 32 + p) * 4 + 1) = nI A) (eB : pg ((b * 32 + p) * 4 + 2) = nI B) (eK : pg ((b * 32 + p) * 4 + 3) = nI K) (eo : pg ((b * 32 + p) * 4) = nI 4) (hA : A < 8) (hB : B < 4) (hK : K < 8) {q : Nat} (hq : q < O) (e : fr (G * 12 + A) = nI q) (e2 : fr (G * 12 + K) = -1) (e3 : fk B = 0) : nf_st G O U H D cc sel cs ec ep ms fk pn pi ln pg so ed he fr ou rc sn si sf tn ti tf := by
  have hF := hM.2.1
  have hO := hM.1
  refine ⟨24, O, G + 1, U, he, fr, ou, by omega, hM, fun post h => ?_, fun yec yep ych post h => ?_⟩
  · unfold wpX_step
    refine nm_r (e' := nI (G * 12)) (by rw [nI_pred, nn_m12]) ⟨pk_in _ 96 (by omega) (nn_a8 _) (by decide), nm_r (e' := nI b) (by rw [nn_a8, nI_clamp (by omega)]; exact ebl) ⟨pk_in _ 96 (by omega) (nn_a9 _) (by decide), nm_r (e' := nI p) (by rw [nn_a9, nI_clamp (by omega)]; exact epc) ⟨vp_in_nI hb (by decide), ?_⟩⟩⟩
    rw [nI_clamp (n := b) (by omega), hlb]
    refine br_t (nI_lt (by omega) (by omega)) ?_
    unfold wpX_codeAt
    rw [nn_ct]
    refine ⟨vp_in_nI (by omega) (by decide), nm_r (e' := nI 4) (by rw [nI_clamp (by omega)]; exact eo) ⟨pk_in _ 512 (by omega) (nn_a1 _) (by decide), nm_r (e' := nI A) (by rw [nn_a1, nI_clamp (by omega)]; exact ea) ⟨pk_in _ 512 (by omega) (nn_a2 _) (by decide), nm_r (e' := nI B) (by rw [nn_a2, nI_clamp (by omega)]; exact eB) ⟨pk_in _ 512 (by omega) (nn_a3 _) (by decide), nm_r (e' := nI K) (by rw [nn_a3, nI_clamp (by omega)]; exact eK) ?_⟩⟩⟩⟩
    refine br_f (by decide) (br_f (by decide) (br_f (by decide) (br_f (by decide) (br_t (by decide) ?_))))
    unfold wpX_stepPut
    rw [nn_clA (a := G * 12) (b := A) (by omega), nn_clA (a := G * 12) (b := K) (by omega)]
    refine ⟨nn_inA (by omega) (by decide), nm_r e ⟨nn_inA (by omega) (by decide), nm_r e2 (br_f (nc_m1 (by omega)) (br_t rfl ⟨vp_in_nI hB (by decide), ?_⟩))⟩⟩
    rw [nI_clamp (n := B) (by omega)]
    exact br_t e3 h
  · unfold wpY_step
    refine nm_r (e' := nI (G * 12)) (by rw [nI_pred, nn_m12]) ⟨pk_in _ 96 (by omega) (nn_a8 _) (by decide), nm_r (e' := nI b) (by rw [nn_a8, nI_clamp (by omega)]; exact ebl) ⟨pk_in _ 96 (by omega) (nn_a9 _) (by decide), nm_r (e' := nI p) (by rw [nn_a9, nI_clamp (by omega)]; exact epc) ⟨vp_in_nI hb (by decide), ?_⟩⟩⟩
    rw [nI_clamp (n := b) (by omega), hlb]
    rw [nn_ct]
    refine br_f (nI_ge (by omega) (by omega)) ⟨vp_in_nI (by omega) (by decide), ?_⟩
    rw [nI_clamp (n := (b * 32 + p) * 4) (by omega), eo]
    refine br_f (by decide) (nm_e ⟨vp_in_nI (by omega) (by decide), nm_r (e' := nI 4) (by rw [nI_clamp (by omega)]; exact eo) ⟨pk_in _ 512 (by omega) (nn_a1 _) (by decide), nm_r (e' := nI A) (by rw [nn_a1, nI_clamp (by omega)]; exact ea) ⟨pk_in _ 512 (by omega) (nn_a2 _) (by decide), nm_r (e' := nI B) (by rw [nn_a2, nI_clamp (by omega)]; exact eB) ⟨pk_in _ 512 (by omega) (nn_a3 _) (by decide), nm_r (e' := nI K) (by rw [nn_a3, nI_clamp (by omega)]; exact eK) (nm_r (nn_a1 p) ?_)⟩⟩⟩⟩)
    refine br_f (by decide) (br_f (by decide) (br_f (by decide) (br_f (by decide) (br_f (by decide) (br_f (by decide) (br_f (by decide) (br_t (by decide) ?_)))))))
    rw [nn_clA (a := G * 12) (b := A) (by omega), nn_clA (a := G * 12) (b := K) (by omega)]
    refine ⟨nn_inA (by omega) (by decide), nm_r e ⟨nn_inA (by omega) (by decide), nm_r e2 (br_t (nI_pos' (by omega)) (br_f (by decide) ⟨vp_in_nI hB (by decide), ?_⟩))⟩⟩
    rw [nI_clamp (n := B) (by omega)]
    exact br_t e3 h
theorem st_4c (hD : D ≤ 8) (hH : H ≤ 32) (hM : nv_M O (G + 1) U H D he fr) (hb : b < 4) (ebl : fr (G * 12 + 8) = nI b) (epc : fr (G * 12 + 9) = nI p) (hlb : ln b = nI l) (hl2 : l ≤ 32) (hp : p < l) (ea : pg ((b * 32 + p) * 4 + 1) = nI A) (eB : pg ((b * 32 + p) * 4 + 2) = nI B) (eK : pg ((b * 32 + p) * 4 + 3) = nI K) (eo : pg ((b * 32 + p) * 4) = nI 4) (hA : A < 8) (hB : B < 4) (hK : K < 8) {q : Nat} (hq : q < O) (e : fr (G * 12 + A) = nI q) (e2 : fr (G * 12 + K) = -1) (e3 : ¬ fk B = 0) (hv : nv_vl O (fr (G * 12 + K))) : nf_st G O U H D cc sel cs ec ep ms fk pn pi ln pg so ed he fr ou rc sn si sf tn ti tf := by
  have hF := hM.2.1
  have hO := hM.1
  have c4 : (nI (q * 4) + nI B).toNatClampNeg = q * 4 + B := nn_clA (by omega)
  have v4 : vp_in (nI (q * 4) + nI B) 128 := nn_inA (by omega) (by decide)
  refine ⟨ms, O, G + 1, U, upd he (q * 4 + B) (fr (G * 12 + K)), upd fr (G * 12 + 9) (nI (p + 1)), ou, by omega, (nv_Mh (nv_Mf hM (fun k hk z => nv_frP z (by omega))) hv), fun post h => ?_, fun yec yep ych post h => ?_⟩
  · unfold wpX_step
    refine nm_r (e' := nI (G * 12)) (by rw [nI_pred, nn_m12]) ⟨pk_in _ 96 (by omega) (nn_a8 _) (by decide), nm_r (e' := nI b) (by rw [nn_a8, nI_clamp (by omega)]; exact ebl) ⟨pk_in _ 96 (by omega) (nn_a9 _) (by decide), nm_r (e' := nI p) (by rw [nn_a9, nI_clamp (by omega)]; exact epc) ⟨vp_in_nI hb (by decide), ?_⟩⟩⟩
    rw [nI_clamp (n := b) (by omega), hlb]
    refine br_t (nI_lt (by omega) (by omega)) ?_
    unfold wpX_codeAt
    rw [nn_ct]
    refine ⟨vp_in_nI (by omega) (by decide), nm_r (e' := nI 4) (by rw [nI_clamp (by omega)]; exact eo) ⟨pk_in _ 512 (by omega) (nn_a1 _) (by decide), nm_r (e' := nI A) (by rw [nn_a1, nI_clamp (by omega)]; exact ea) ⟨pk_in _ 512 (by omega) (nn_a2 _) (by decide), nm_r (e' := nI B) (by rw [nn_a2, nI_clamp (by omega)]; exact eB) ⟨pk_in _ 512 (by omega) (nn_a3 _) (by decide), nm_r (e' := nI K) (by rw [nn_a3, nI_clamp (by omega)]; exact eK) ?_⟩⟩⟩⟩
    refine br_f (by decide) (br_f (by decide) (br_f (by decide) (br_f (by decide) (br_t (by decide) ?_))))
    unfold wpX_stepPut
    rw [nn_clA (a := G * 12) (b := A) (by omega), nn_clA (a := G * 12) (b := K) (by omega)]
    refine ⟨nn_inA (by omega) (by decide), nm_r e ⟨nn_inA (by omega) (by decide), nm_e (br_f (nc_m1 (by omega)) (br_t e2 ⟨vp_in_nI hB (by decide), ?_⟩))⟩⟩
    rw [nI_clamp (n := B) (by omega)]
    refine br_f e3 ?_
    unfold wX_stepPut_60
    rw [nn_m4, c4, nn_a9, nI_clamp (n := G * 12 + 9) (by omega)]
    refine ⟨v4, nm_e ⟨vp_in_nI (by omega) (by decide), vp_in_nI (by omega) (by decide), nm_r ?_ h⟩⟩
    rw [epc, nn_a1]
  · unfold wpY_step
    refine nm_r (e' := nI (G * 12)) (by rw [nI_pred, nn_m12]) ⟨pk_in _ 96 (by omega) (nn_a8 _) (by decide), nm_r (e' := nI b) (by rw [nn_a8, nI_clamp (by omega)]; exact ebl) ⟨pk_in _ 96 (by omega) (nn_a9 _) (by decide), nm_r (e' := nI p) (by rw [nn_a9, nI_clamp (by omega)]; exact epc) ⟨vp_in_nI hb (by decide), ?_⟩⟩⟩
    rw [nI_clamp (n := b) (by omega), hlb]
    rw [nn_ct]
    refine br_f (nI_ge (by omega) (by omega)) ⟨vp_in_nI (by omega) (by decide), ?_⟩
    rw [nI_clamp (n := (b * 32 + p) * 4) (by omega), eo]
    refine br_f (by decide) (nm_e ⟨vp_in_nI (by omega) (by decide), nm_r (e' := nI 4) (by rw [nI_clamp (by omega)]; exact eo) ⟨pk_in _ 512 (by omega) (nn_a1 _) (by decide), nm_r (e' := nI A) (by rw [nn_a1, nI_clamp (by omega)]; exact ea) ⟨pk_in _ 512 (by omega) (nn_a2 _) (by decide), nm_r (e' := nI B) (by rw [nn_a2, nI_clamp (by omega)]; exact eB) ⟨pk_in _ 512 (by omega) (nn_a3 _) (by decide), nm_r (e' := nI K) (by rw [nn_a3, nI_clamp (by omega)]; exact eK) (nm_r (nn_a1 p) ?_)⟩⟩⟩⟩)
    refine br_f (by decide) (br_f (by decide) (br_f (by decide) (br_f (by decide) (br_f (by decide) (br_f (by decide) (br_f (by decide) (br_t (by decide) ?_)))))))
    rw [nn_clA (a := G * 12) (b := A) (by omega), nn_clA (a := G * 12) (b := K) (by omega)]
    have Z : wY_step_482 post (nI (G * 12)) (nI B) (nI (p + 1)) (nI q) (fr (G * 12 + K)) cc (nI H) (nI D) sel yec yep cs ms (nI O) (nI U) (nI (G + 1)) ych fk pn pi ln pg rc sn si sf tn ti tf he ou fr := by
      unfold wY_step_482
      rw [nn_m4, c4]
      exact ⟨v4, nm_e (ym_743 (by omega) h)⟩
    refine ⟨nn_inA (by omega) (by decide), nm_r e ⟨nn_inA (by omega) (by decide), nm_e (br_t (nI_pos' (by omega)) (br_f (by rw [e2]; decide) ⟨vp_in_nI hB (by decide), ?_⟩))⟩⟩
    rw [nI_clamp (n := B) (by omega)]
    exact br_f e3 Z
theorem st_4d (hD : D ≤ 8) (hH : H ≤ 32) (hM : nv_M O (G + 1) U H D he fr) (hb : b < 4) (ebl : fr (G * 12 + 8) = nI b) (epc : fr (G * 12 + 9) = nI p) (hlb : ln b = nI l) (hl2 : l ≤ 32) (hp : p < l) (ea : pg ((b * 32 + p) * 4 + 1) = nI A) (eB : pg ((b * 32 + p) * 4 + 2) = nI B) (eK : pg ((b * 32 + p) * 4 + 3) = nI K) (eo : pg ((b * 32 + p) * 4) = nI 4) (hA : A < 8) (hB : B < 4) (hK : K < 8) {q r : Nat} (hq : q < O) (e : fr (G * 12 + A) = nI q) (hr : r < O) (e2 : fr (G * 12 + K) = nI r) (hv : nv_vl O (fr (G * 12 + K))) : nf_st G O U H D cc sel cs ec ep ms fk pn pi ln pg so ed he fr ou rc sn si sf tn ti tf := by
  have hF := hM.2.1
  have hO := hM.1
  have c4 : (nI (q * 4) + nI B).toNatClampNeg = q * 4 + B := nn_clA (by omega)
  have v4 : vp_in (nI (q * 4) + nI B) 128 := nn_inA (by omega) (by decide)
  refine ⟨ms, O, G + 1, U, upd he (q * 4 + B) (fr (G * 12 + K)), upd fr (G * 12 + 9) (nI (p + 1)), ou, by omega, (nv_Mh (nv_Mf hM (fun k hk z => nv_frP z (by omega))) hv), fun post h => ?_, fun yec yep ych post h => ?_⟩
  · unfold wpX_step
    refine nm_r (e' := nI (G * 12)) (by rw [nI_pred, nn_m12]) ⟨pk_in _ 96 (by omega) (nn_a8 _) (by decide), nm_r (e' := nI b) (by rw [nn_a8, nI_clamp (by omega)]; exact ebl) ⟨pk_in _ 96 (by omega) (nn_a9 _) (by decide), nm_r (e' := nI p) (by rw [nn_a9, nI_clamp (by omega)]; exact epc) ⟨vp_in_nI hb (by decide), ?_⟩⟩⟩
    rw [nI_clamp (n := b) (by omega), hlb]
    refine br_t (nI_lt (by omega) (by omega)) ?_
    unfold wpX_codeAt
    rw [nn_ct]
    refine ⟨vp_in_nI (by omega) (by decide), nm_r (e' := nI 4) (by rw [nI_clamp (by omega)]; exact eo) ⟨pk_in _ 512 (by omega) (nn_a1 _) (by decide), nm_r (e' := nI A) (by rw [nn_a1, nI_clamp (by omega)]; exact ea) ⟨pk_in _ 512 (by omega) (nn_a2 _) (by decide), nm_r (e' := nI B) (by rw [nn_a2, nI_clamp (by omega)]; exact eB) ⟨pk_in _ 512 (by omega) (nn_a3 _) (by decide), nm_r (e' := nI K) (by rw [nn_a3, nI_clamp (by omega)]; exact eK) ?_⟩⟩⟩⟩
    refine br_f (by decide) (br_f (by decide) (br_f (by decide) (br_f (by decide) (br_t (by decide) ?_))))
    unfold wpX_stepPut
    rw [nn_clA (a := G * 12) (b := A) (by omega), nn_clA (a := G * 12) (b := K) (by omega)]
    refine ⟨nn_inA (by omega) (by decide), nm_r e ⟨nn_inA (by omega) (by decide), nm_e (br_f (nc_m1 (by omega)) (br_f (by rw [e2]; exact nc_m1 (by omega)) ?_))⟩⟩
    unfold wX_stepPut_60
    rw [nn_m4, c4, nn_a9, nI_clamp (n := G * 12 + 9) (by omega)]
    refine ⟨v4, nm_e ⟨vp_in_nI (by omega) (by decide), vp_in_nI (by omega) (by decide), nm_r ?_ h⟩⟩
    rw [epc, nn_a1]
  · unfold wpY_step
    refine nm_r (e' := nI (G * 12)) (by rw [nI_pred, nn_m12]) ⟨pk_in _ 96 (by omega) (nn_a8 _) (by decide), nm_r (e' := nI b) (by rw [nn_a8, nI_clamp (by omega)]; exact ebl) ⟨pk_in _ 96 (by omega) (nn_a9 _) (by decide), nm_r (e' := nI p) (by rw [nn_a9, nI_clamp (by omega)]; exact epc) ⟨vp_in_nI hb (by decide), ?_⟩⟩⟩
    rw [nI_clamp (n := b) (by omega), hlb]
    rw [nn_ct]
    refine br_f (nI_ge (by omega) (by omega)) ⟨vp_in_nI (by omega) (by decide), ?_⟩
    rw [nI_clamp (n := (b * 32 + p) * 4) (by omega), eo]
    refine br_f (by decide) (nm_e ⟨vp_in_nI (by omega) (by decide), nm_r (e' := nI 4) (by rw [nI_clamp (by omega)]; exact eo) ⟨pk_in _ 512 (by omega) (nn_a1 _) (by decide), nm_r (e' := nI A) (by rw [nn_a1, nI_clamp (by omega)]; exact ea) ⟨pk_in _ 512 (by omega) (nn_a2 _) (by decide), nm_r (e' := nI B) (by rw [nn_a2, nI_clamp (by omega)]; exact eB) ⟨pk_in _ 512 (by omega) (nn_a3 _) (by decide), nm_r (e' := nI K) (by rw [nn_a3, nI_clamp (by omega)]; exact eK) (nm_r (nn_a1 p) ?_)⟩⟩⟩⟩)
    refine br_f (by decide) (br_f (by decide) (br_f (by decide) (br_f (by decide) (br_f (by decide) (br_f (by decide) (br_f (by decide) (br_t (by decide) ?_)))))))
    rw [nn_clA (a := G * 12) (b := A) (by omega), nn_clA (a := G * 12) (b := K) (by omega)]
    have Z : wY_step_482 post (nI (G * 12)) (nI B) (nI (p + 1)) (nI q) (fr (G * 12 + K)) cc (nI H) (nI D) sel yec yep cs ms (nI O) (nI U) (nI (G + 1)) ych fk pn pi ln pg rc sn si sf tn ti tf he ou fr := by
      unfold wY_step_482
      rw [nn_m4, c4]
      exact ⟨v4, nm_e (ym_743 (by omega) h)⟩
    exact ⟨nn_inA (by omega) (by decide), nm_r e ⟨nn_inA (by omega) (by decide), nm_e (br_t (nI_pos' (by omega)) (br_t (by rw [e2]; exact nI_pos' (by omega)) Z))⟩⟩
theorem st_2a (hD : D ≤ 8) (hH : H ≤ 32) (hM : nv_M O (G + 1) U H D he fr) (hb : b < 4) (ebl : fr (G * 12 + 8) = nI b) (epc : fr (G * 12 + 9) = nI p) (hlb : ln b = nI l) (hl2 : l ≤ 32) (hp : p < l) (ea : pg ((b * 32 + p) * 4 + 1) = nI A) (eB : pg ((b * 32 + p) * 4 + 2) = nI B) (eK : pg ((b * 32 + p) * 4 + 3) = nI K) (eo : pg ((b * 32 + p) * 4) = nI 2) (hA : A < 8) (hB : 1 ≤ B ∧ B < 4) (hK : K < 8) (hv : nv_vl O (fr (G * 12 + K))) (e : fr (G * 12 + K) = -1) (e2 : pn B = 0) : nf_st G O U H D cc sel cs ec ep ms fk pn pi ln pg so ed he fr ou rc sn si sf tn ti tf := by
  have hF := hM.2.1
  have hO := hM.1
  refine ⟨24, O, G + 1, U, he, fr, ou, by omega, hM, fun post h => ?_, fun yec yep ych post h => ?_⟩
  · unfold wpX_step
    refine nm_r (e' := nI (G * 12)) (by rw [nI_pred, nn_m12]) ⟨pk_in _ 96 (by omega) (nn_a8 _) (by decide), nm_r (e' := nI b) (by rw [nn_a8, nI_clamp (by omega)]; exact ebl) ⟨pk_in _ 96 (by omega) (nn_a9 _) (by decide), nm_r (e' := nI p) (by rw [nn_a9, nI_clamp (by omega)]; exact epc) ⟨vp_in_nI hb (by decide), ?_⟩⟩⟩
    rw [nI_clamp (n := b) (by omega), hlb]
    refine br_t (nI_lt (by omega) (by omega)) ?_
    unfold wpX_codeAt
    rw [nn_ct]
    refine ⟨vp_in_nI (by omega) (by decide), nm_r (e' := nI 2) (by rw [nI_clamp (by omega)]; exact eo) ⟨pk_in _ 512 (by omega) (nn_a1 _) (by decide), nm_r (e' := nI A) (by rw [nn_a1, nI_clamp (by omega)]; exact ea) ⟨pk_in _ 512 (by omega) (nn_a2 _) (by decide), nm_r (e' := nI B) (by rw [nn_a2, nI_clamp (by omega)]; exact eB) ⟨pk_in _ 512 (by omega) (nn_a3 _) (by decide), nm_r (e' := nI K) (by rw [nn_a3, nI_clamp (by omega)]; exact eK) ?_⟩⟩⟩⟩
    refine br_f (by decide) (br_f (by decide) (br_t (by decide) ?_))
    unfold wpX_stepNew
    rw [nn_clA (a := G * 12) (b := K) (by omega)]
    refine ⟨nn_inA (by omega) (by decide), nm_r e (br_t rfl ⟨vp_in_nI hB.2 (by decide), ?_⟩)⟩
    rw [nI_clamp (n := B) (by omega)]
    exact br_t e2 h
  · unfold wpY_step
    refine nm_r (e' := nI (G * 12)) (by rw [nI_pred, nn_m12]) ⟨pk_in _ 96 (by omega) (nn_a8 _) (by decide), nm_r (e' := nI b) (by rw [nn_a8, nI_clamp (by omega)]; exact ebl) ⟨pk_in _ 96 (by omega) (nn_a9 _) (by decide), nm_r (e' := nI p) (by rw [nn_a9, nI_clamp (by omega)]; exact epc) ⟨vp_in_nI hb (by decide), ?_⟩⟩⟩
    rw [nI_clamp (n := b) (by omega), hlb]
    rw [nn_ct]
    refine br_f (nI_ge (by omega) (by omega)) ⟨vp_in_nI (by omega) (by decide), ?_⟩
    rw [nI_clamp (n := (b * 32 + p) * 4) (by omega), eo]
    refine br_f (by decide) (nm_e ⟨vp_in_nI (by omega) (by decide), nm_r (e' := nI 2) (by rw [nI_clamp (by omega)]; exact eo) ⟨pk_in _ 512 (by omega) (nn_a1 _) (by decide), nm_r (e' := nI A) (by rw [nn_a1, nI_clamp (by omega)]; exact ea) ⟨pk_in _ 512 (by omega) (nn_a2 _) (by decide), nm_r (e' := nI B) (by rw [nn_a2, nI_clamp (by omega)]; exact eB) ⟨pk_in _ 512 (by omega) (nn_a3 _) (by decide), nm_r (e' := nI K) (by rw [nn_a3, nI_clamp (by omega)]; exact eK) (nm_r (nn_a1 p) ?_)⟩⟩⟩⟩)
    refine br_f (by decide) (br_f (by decide) (br_f (by decide) (br_f (by decide) (br_f (by decide) (br_f (by decide) (br_f (by decide) (br_f (by decide) (br_t (by decide) ?_))))))))
    rw [nn_clA (a := G * 12) (b := K) (by omega)]
    refine ⟨nn_inA (by omega) (by decide), nm_r e (br_f (by decide) ⟨vp_in_nI hB.2 (by decide), ?_⟩)⟩
    rw [nI_clamp (n := B) (by omega)]
    exact br_t e2 h
theorem st_2b (hD : D ≤ 8) (hH : H ≤ 32) (hM : nv_M O (G + 1) U H D he fr) (hb : b < 4) (ebl : fr (G * 12 + 8) = nI b) (epc : fr (G * 12 + 9) = nI p) (hlb : ln b = nI l) (hl2 : l ≤ 32) (hp : p < l) (ea : pg ((b * 32 + p) * 4 + 1) = nI A) (eB : pg ((b * 32 + p) * 4 + 2) = nI B) (eK : pg ((b * 32 + p) * 4 + 3) = nI K) (eo : pg ((b * 32 + p) * 4) = nI 2) (hA : A < 8) (hB : 1 ≤ B ∧ B < 4) (hK : K < 8) (hv : nv_vl O (fr (G * 12 + K))) (e : ¬ (fr (G * 12 + K) = -1 ∧ pn B = 0)) (e2 : G + 1 = D) : nf_st G O U H D cc sel cs ec ep ms fk pn pi ln pg so ed he fr ou rc sn si sf tn ti tf := by
  have hF := hM.2.1
  have hO := hM.1
  refine ⟨25, O, G + 1, U, he, fr, ou, by omega, hM, fun post h => ?_, fun yec yep ych post h => ?_⟩
  · unfold wpX_step
    refine nm_r (e' := nI (G * 12)) (by rw [nI_pred, nn_m12]) ⟨pk_in _ 96 (by omega) (nn_a8 _) (by decide), nm_r (e' := nI b) (by rw [nn_a8, nI_clamp (by omega)]; exact ebl) ⟨pk_in _ 96 (by omega) (nn_a9 _) (by decide), nm_r (e' := nI p) (by rw [nn_a9, nI_clamp (by omega)]; exact epc) ⟨vp_in_nI hb (by decide), ?_⟩⟩⟩
    rw [nI_clamp (n := b) (by omega), hlb]
    refine br_t (nI_lt (by omega) (by omega)) ?_
    unfold wpX_codeAt
    rw [nn_ct]
    refine ⟨vp_in_nI (by omega) (by decide), nm_r (e' := nI 2) (by rw [nI_clamp (by omega)]; exact eo) ⟨pk_in _ 512 (by omega) (nn_a1 _) (by decide), nm_r (e' := nI A) (by rw [nn_a1, nI_clamp (by omega)]; exact ea) ⟨pk_in _ 512 (by omega) (nn_a2 _) (by decide), nm_r (e' := nI B) (by rw [nn_a2, nI_clamp (by omega)]; exact eB) ⟨pk_in _ 512 (by omega) (nn_a3 _) (by decide), nm_r (e' := nI K) (by rw [nn_a3, nI_clamp (by omega)]; exact eK) ?_⟩⟩⟩⟩
    refine br_f (by decide) (br_f (by decide) (br_t (by decide) ?_))
    unfold wpX_stepNew
    rw [nn_clA (a := G * 12) (b := K) (by omega)]
    have Q : ∀ (P : SX → Prop), wX_stepNew_35 P (nI (G * 12)) (nI A) (nI B) (fr (G * 12 + K)) cc (nI H) (nI D) sel cs ec ep ms (nI O) (nI (G + 1)) (nI U) fk pn pi ln pg so ed he fr ou → (fun x5_2 => ((x5_2 = (-1) → (vp_in (nI B) 4 ∧ ((((pn (nI B).toNatClampNeg) = 0 → (P (cc, (nI H), (nI D), sel, cs, ec, ep, 24, (nI O), (nI (G + 1)), (nI U), fk, pn, pi, ln, pg, so, ed, he, fr, ou))) ∧ (¬ (pn (nI B).toNatClampNeg) = 0 → (wX_stepNew_35 P (nI (G * 12)) (nI A) (nI B) x5_2 cc (nI H) (nI D) sel cs ec ep ms (nI O) (nI (G + 1)) (nI U) fk pn pi ln pg so ed he fr ou)))))) ∧ (¬ x5_2 = (-1) → (wX_stepNew_35 P (nI (G * 12)) (nI A) (nI B) x5_2 cc (nI H) (nI D) sel cs ec ep ms (nI O) (nI (G + 1)) (nI U) fk pn pi ln pg so ed he fr ou)))) (fr (G * 12 + K)) := by
      intro P g
      refine br_c (fun z => ⟨vp_in_nI hB.2 (by decide), ?_⟩) (fun z => g)
      rw [nI_clamp (n := B) (by omega)]
      exact br_f (fun z2 => e ⟨z, z2⟩) g
    refine ⟨nn_inA (by omega) (by decide), nm_e (Q _ ?_)⟩
    unfold wX_stepNew_35
    exact br_t (congrArg nI e2) h
  · unfold wpY_step
    refine nm_r (e' := nI (G * 12)) (by rw [nI_pred, nn_m12]) ⟨pk_in _ 96 (by omega) (nn_a8 _) (by decide), nm_r (e' := nI b) (by rw [nn_a8, nI_clamp (by omega)]; exact ebl) ⟨pk_in _ 96 (by omega) (nn_a9 _) (by decide), nm_r (e' := nI p) (by rw [nn_a9, nI_clamp (by omega)]; exact epc) ⟨vp_in_nI hb (by decide), ?_⟩⟩⟩
    rw [nI_clamp (n := b) (by omega), hlb]
    rw [nn_ct]
    refine br_f (nI_ge (by omega) (by omega)) ⟨vp_in_nI (by omega) (by decide), ?_⟩
    rw [nI_clamp (n := (b * 32 + p) * 4) (by omega), eo]
    refine br_f (by decide) (nm_e ⟨vp_in_nI (by omega) (by decide), nm_r (e' := nI 2) (by rw [nI_clamp (by omega)]; exact eo) ⟨pk_in _ 512 (by omega) (nn_a1 _) (by decide), nm_r (e' := nI A) (by rw [nn_a1, nI_clamp (by omega)]; exact ea) ⟨pk_in _ 512 (by omega) (nn_a2 _) (by decide), nm_r (e' := nI B) (by rw [nn_a2, nI_clamp (by omega)]; exact eB) ⟨pk_in _ 512 (by omega) (nn_a3 _) (by decide), nm_r (e' := nI K) (by rw [nn_a3, nI_clamp (by omega)]; exact eK) (nm_r (nn_a1 p) ?_)⟩⟩⟩⟩)
    refine br_f (by decide) (br_f (by decide) (br_f (by decide) (br_f (by decide) (br_f (by decide) (br_f (by decide) (br_f (by decide) (br_f (by decide) (br_t (by decide) ?_))))))))
    rw [nn_clA (a := G * 12) (b := K) (by omega)]
    have Q : wY_step_538 post (nI (G * 12)) (nI A) (nI B) (nI (p + 1)) (fr (G * 12 + K)) cc (nI H) (nI D) sel yec yep cs ms (nI O) (nI U) (nI (G + 1)) ych fk pn pi ln pg rc sn si sf tn ti tf he ou fr → ((0 ≤ fr (G * 12 + K) → wY_step_538 post (nI (G * 12)) (nI A) (nI B) (nI (p + 1)) (fr (G * 12 + K)) cc (nI H) (nI D) sel yec yep cs ms (nI O) (nI U) (nI (G + 1)) ych fk pn pi ln pg rc sn si sf tn ti tf he ou fr) ∧ (¬ 0 ≤ fr (G * 12 + K) → (vp_in (nI B) 4 ∧ ((pn (nI B).toNatClampNeg = 0 → post (cc, (nI H), (nI D), sel, yec, yep, cs, 24, (nI O), (nI U), (nI (G + 1)), ych, fk, pn, pi, ln, pg, rc, sn, si, sf, tn, ti, tf, he, ou, fr)) ∧ (¬ pn (nI B).toNatClampNeg = 0 → wY_step_538 post (nI (G * 12)) (nI A) (nI B) (nI (p + 1)) (fr (G * 12 + K)) cc (nI H) (nI D) sel yec yep cs ms (nI O) (nI U) (nI (G + 1)) ych fk pn pi ln pg rc sn si sf tn ti tf he ou fr))))) := by
      intro g
      refine br_c (fun z => g) (fun z => ⟨vp_in_nI hB.2 (by decide), ?_⟩)
      rw [nI_clamp (n := B) (by omega)]
      exact br_f (fun z2 => e ⟨(nv_lt (by omega) hv).mp (Int32.not_le.mp z), z2⟩) g
    refine ⟨nn_inA (by omega) (by decide), nm_e (Q ?_)⟩
    unfold wY_step_538
    exact br_t (congrArg nI e2) h
theorem st_2c (hD : D ≤ 8) (hH : H ≤ 32) (hM : nv_M O (G + 1) U H D he fr) (hb : b < 4) (ebl : fr (G * 12 + 8) = nI b) (epc : fr (G * 12 + 9) = nI p) (hlb : ln b = nI l) (hl2 : l ≤ 32) (hp : p < l) (ea : pg ((b * 32 + p) * 4 + 1) = nI A) (eB : pg ((b * 32 + p) * 4 + 2) = nI B) (eK : pg ((b * 32 + p) * 4 + 3) = nI K) (eo : pg ((b * 32 + p) * 4) = nI 2) (hA : A < 8) (hB : 1 ≤ B ∧ B < 4) (hK : K < 8) (hv : nv_vl O (fr (G * 12 + K))) (e : ¬ (fr (G * 12 + K) = -1 ∧ pn B = 0)) (e2 : G + 1 ≠ D) (e3 : O = H) : nf_st G O U H D cc sel cs ec ep ms fk pn pi ln pg so ed he fr ou rc sn si sf tn ti tf := by
  have hF := hM.2.1
  have hO := hM.1
  refine ⟨26, O, G + 1, U, he, fr, ou, by omega, hM, fun post h => ?_, fun yec yep ych post h => ?_⟩
  · unfold wpX_step
    refine nm_r (e' := nI (G * 12)) (by rw [nI_pred, nn_m12]) ⟨pk_in _ 96 (by omega) (nn_a8 _) (by decide), nm_r (e' := nI b) (by rw [nn_a8, nI_clamp (by omega)]; exact ebl) ⟨pk_in _ 96 (by omega) (nn_a9 _) (by decide), nm_r (e' := nI p) (by rw [nn_a9, nI_clamp (by omega)]; exact epc) ⟨vp_in_nI hb (by decide), ?_⟩⟩⟩
    rw [nI_clamp (n := b) (by omega), hlb]
    refine br_t (nI_lt (by omega) (by omega)) ?_
    unfold wpX_codeAt
    rw [nn_ct]
    refine ⟨vp_in_nI (by omega) (by decide), nm_r (e' := nI 2) (by rw [nI_clamp (by omega)]; exact eo) ⟨pk_in _ 512 (by omega) (nn_a1 _) (by decide), nm_r (e' := nI A) (by rw [nn_a1, nI_clamp (by omega)]; exact ea) ⟨pk_in _ 512 (by omega) (nn_a2 _) (by decide), nm_r (e' := nI B) (by rw [nn_a2, nI_clamp (by omega)]; exact eB) ⟨pk_in _ 512 (by omega) (nn_a3 _) (by decide), nm_r (e' := nI K) (by rw [nn_a3, nI_clamp (by omega)]; exact eK) ?_⟩⟩⟩⟩
    refine br_f (by decide) (br_f (by decide) (br_t (by decide) ?_))
    unfold wpX_stepNew
    rw [nn_clA (a := G * 12) (b := K) (by omega)]
    have Q : ∀ (P : SX → Prop), wX_stepNew_35 P (nI (G * 12)) (nI A) (nI B) (fr (G * 12 + K)) cc (nI H) (nI D) sel cs ec ep ms (nI O) (nI (G + 1)) (nI U) fk pn pi ln pg so ed he fr ou → (fun x5_2 => ((x5_2 = (-1) → (vp_in (nI B) 4 ∧ ((((pn (nI B).toNatClampNeg) = 0 → (P (cc, (nI H), (nI D), sel, cs, ec, ep, 24, (nI O), (nI (G + 1)), (nI U), fk, pn, pi, ln, pg, so, ed, he, fr, ou))) ∧ (¬ (pn (nI B).toNatClampNeg) = 0 → (wX_stepNew_35 P (nI (G * 12)) (nI A) (nI B) x5_2 cc (nI H) (nI D) sel cs ec ep ms (nI O) (nI (G + 1)) (nI U) fk pn pi ln pg so ed he fr ou)))))) ∧ (¬ x5_2 = (-1) → (wX_stepNew_35 P (nI (G * 12)) (nI A) (nI B) x5_2 cc (nI H) (nI D) sel cs ec ep ms (nI O) (nI (G + 1)) (nI U) fk pn pi ln pg so ed he fr ou)))) (fr (G * 12 + K)) := by
      intro P g
      refine br_c (fun z => ⟨vp_in_nI hB.2 (by decide), ?_⟩) (fun z => g)
      rw [nI_clamp (n := B) (by omega)]
      exact br_f (fun z2 => e ⟨z, z2⟩) g
    refine ⟨nn_inA (by omega) (by decide), nm_e (Q _ ?_)⟩
    unfold wX_stepNew_35
    exact br_f (fun z => e2 ((nI_eq (by omega) (by omega)).mp z)) (br_t (congrArg nI e3) h)
  · unfold wpY_step
    refine nm_r (e' := nI (G * 12)) (by rw [nI_pred, nn_m12]) ⟨pk_in _ 96 (by omega) (nn_a8 _) (by decide), nm_r (e' := nI b) (by rw [nn_a8, nI_clamp (by omega)]; exact ebl) ⟨pk_in _ 96 (by omega) (nn_a9 _) (by decide), nm_r (e' := nI p) (by rw [nn_a9, nI_clamp (by omega)]; exact epc) ⟨vp_in_nI hb (by decide), ?_⟩⟩⟩
    rw [nI_clamp (n := b) (by omega), hlb]
    rw [nn_ct]
    refine br_f (nI_ge (by omega) (by omega)) ⟨vp_in_nI (by omega) (by decide), ?_⟩
    rw [nI_clamp (n := (b * 32 + p) * 4) (by omega), eo]
    refine br_f (by decide) (nm_e ⟨vp_in_nI (by omega) (by decide), nm_r (e' := nI 2) (by rw [nI_clamp (by omega)]; exact eo) ⟨pk_in _ 512 (by omega) (nn_a1 _) (by decide), nm_r (e' := nI A) (by rw [nn_a1, nI_clamp (by omega)]; exact ea) ⟨pk_in _ 512 (by omega) (nn_a2 _) (by decide), nm_r (e' := nI B) (by rw [nn_a2, nI_clamp (by omega)]; exact eB) ⟨pk_in _ 512 (by omega) (nn_a3 _) (by decide), nm_r (e' := nI K) (by rw [nn_a3, nI_clamp (by omega)]; exact eK) (nm_r (nn_a1 p) ?_)⟩⟩⟩⟩)
    refine br_f (by decide) (br_f (by decide) (br_f (by decide) (br_f (by decide) (br_f (by decide) (br_f (by decide) (br_f (by decide) (br_f (by decide) (br_t (by decide) ?_))))))))
    rw [nn_clA (a := G * 12) (b := K) (by omega)]
    have Q : wY_step_538 post (nI (G * 12)) (nI A) (nI B) (nI (p + 1)) (fr (G * 12 + K)) cc (nI H) (nI D) sel yec yep cs ms (nI O) (nI U) (nI (G + 1)) ych fk pn pi ln pg rc sn si sf tn ti tf he ou fr → ((0 ≤ fr (G * 12 + K) → wY_step_538 post (nI (G * 12)) (nI A) (nI B) (nI (p + 1)) (fr (G * 12 + K)) cc (nI H) (nI D) sel yec yep cs ms (nI O) (nI U) (nI (G + 1)) ych fk pn pi ln pg rc sn si sf tn ti tf he ou fr) ∧ (¬ 0 ≤ fr (G * 12 + K) → (vp_in (nI B) 4 ∧ ((pn (nI B).toNatClampNeg = 0 → post (cc, (nI H), (nI D), sel, yec, yep, cs, 24, (nI O), (nI U), (nI (G + 1)), ych, fk, pn, pi, ln, pg, rc, sn, si, sf, tn, ti, tf, he, ou, fr)) ∧ (¬ pn (nI B).toNatClampNeg = 0 → wY_step_538 post (nI (G * 12)) (nI A) (nI B) (nI (p + 1)) (fr (G * 12 + K)) cc (nI H) (nI D) sel yec yep cs ms (nI O) (nI U) (nI (G + 1)) ych fk pn pi ln pg rc sn si sf tn ti tf he ou fr))))) := by
      intro g
      refine br_c (fun z => g) (fun z => ⟨vp_in_nI hB.2 (by decide), ?_⟩)
      rw [nI_clamp (n := B) (by omega)]
      exact br_f (fun z2 => e ⟨(nv_lt (by omega) hv).mp (Int32.not_le.mp z), z2⟩) g
    refine ⟨nn_inA (by omega) (by decide), nm_e (Q ?_)⟩
    unfold wY_step_538
    exact br_f (fun z => e2 ((nI_eq (by omega) (by omega)).mp z)) (br_t (congrArg nI e3) h)
theorem st_2d (hD : D ≤ 8) (hH : H ≤ 32) (hM : nv_M O (G + 1) U H D he fr) (hb : b < 4) (ebl : fr (G * 12 + 8) = nI b) (epc : fr (G * 12 + 9) = nI p) (hlb : ln b = nI l) (hl2 : l ≤ 32) (hp : p < l) (ea : pg ((b * 32 + p) * 4 + 1) = nI A) (eB : pg ((b * 32 + p) * 4 + 2) = nI B) (eK : pg ((b * 32 + p) * 4 + 3) = nI K) (eo : pg ((b * 32 + p) * 4) = nI 2) (hA : A < 8) (hB : 1 ≤ B ∧ B < 4) (hK : K < 8) (hv : nv_vl O (fr (G * 12 + K))) (e : ¬ (fr (G * 12 + K) = -1 ∧ pn B = 0)) (e2 : G + 1 ≠ D) (e3 : O ≠ H) : nf_st G O U H D cc sel cs ec ep ms fk pn pi ln pg so ed he fr ou rc sn si sf tn ti tf := by
  have hF := hM.2.1
  have hO := hM.1
  refine ⟨ms, O + 1, G + 1 + 1, U, na_fi he (O * 4) 4 (-1), nw_push (upd fr (G * 12 + 9) (nI (p + 1))) (G + 1) (nI B) (fr (G * 12 + K)) (nI A) (nI O), ou, by omega, (nv_Mnew (nv_Mf hM (fun k hk z => nv_frP z (by omega))) (by omega) (by omega) hB.2 hA hv), fun post h => ?_, fun yec yep ych post h => ?_⟩
  · unfold wpX_step
    refine nm_r (e' := nI (G * 12)) (by rw [nI_pred, nn_m12]) ⟨pk_in _ 96 (by omega) (nn_a8 _) (by decide), nm_r (e' := nI b) (by rw [nn_a8, nI_clamp (by omega)]; exact ebl) ⟨pk_in _ 96 (by omega) (nn_a9 _) (by decide), nm_r (e' := nI p) (by rw [nn_a9, nI_clamp (by omega)]; exact epc) ⟨vp_in_nI hb (by decide), ?_⟩⟩⟩
    rw [nI_clamp (n := b) (by omega), hlb]
    refine br_t (nI_lt (by omega) (by omega)) ?_
    unfold wpX_codeAt
    rw [nn_ct]
    refine ⟨vp_in_nI (by omega) (by decide), nm_r (e' := nI 2) (by rw [nI_clamp (by omega)]; exact eo) ⟨pk_in _ 512 (by omega) (nn_a1 _) (by decide), nm_r (e' := nI A) (by rw [nn_a1, nI_clamp (by omega)]; exact ea) ⟨pk_in _ 512 (by omega) (nn_a2 _) (by decide), nm_r (e' := nI B) (by rw [nn_a2, nI_clamp (by omega)]; exact eB) ⟨pk_in _ 512 (by omega) (nn_a3 _) (by decide), nm_r (e' := nI K) (by rw [nn_a3, nI_clamp (by omega)]; exact eK) ?_⟩⟩⟩⟩
    refine br_f (by decide) (br_f (by decide) (br_t (by decide) ?_))
    unfold wpX_stepNew
    rw [nn_clA (a := G * 12) (b := K) (by omega)]
    have Q : ∀ (P : SX → Prop), wX_stepNew_35 P (nI (G * 12)) (nI A) (nI B) (fr (G * 12 + K)) cc (nI H) (nI D) sel cs ec ep ms (nI O) (nI (G + 1)) (nI U) fk pn pi ln pg so ed he fr ou → (fun x5_2 => ((x5_2 = (-1) → (vp_in (nI B) 4 ∧ ((((pn (nI B).toNatClampNeg) = 0 → (P (cc, (nI H), (nI D), sel, cs, ec, ep, 24, (nI O), (nI (G + 1)), (nI U), fk, pn, pi, ln, pg, so, ed, he, fr, ou))) ∧ (¬ (pn (nI B).toNatClampNeg) = 0 → (wX_stepNew_35 P (nI (G * 12)) (nI A) (nI B) x5_2 cc (nI H) (nI D) sel cs ec ep ms (nI O) (nI (G + 1)) (nI U) fk pn pi ln pg so ed he fr ou)))))) ∧ (¬ x5_2 = (-1) → (wX_stepNew_35 P (nI (G * 12)) (nI A) (nI B) x5_2 cc (nI H) (nI D) sel cs ec ep ms (nI O) (nI (G + 1)) (nI U) fk pn pi ln pg so ed he fr ou)))) (fr (G * 12 + K)) := by
      intro P g
      refine br_c (fun z => ⟨vp_in_nI hB.2 (by decide), ?_⟩) (fun z => g)
      rw [nI_clamp (n := B) (by omega)]
      exact br_f (fun z2 => e ⟨z, z2⟩) g
    refine ⟨nn_inA (by omega) (by decide), nm_e (Q _ ?_)⟩
    unfold wX_stepNew_35
    refine br_f (fun z => e2 ((nI_eq (by omega) (by omega)).mp z)) (br_f (fun z => e3 ((nI_eq (by omega) (by omega)).mp z)) (xm_make (by omega) ?_))
    refine ⟨pk_in _ 96 (by omega) (nn_a9 _) (by decide), pk_in _ 96 (by omega) (nn_a9 _) (by decide), nm_r (e' := upd fr (G * 12 + 9) (nI (p + 1))) ?_ (xm_push (by omega) h)⟩
    rw [nn_a9, nI_clamp (by omega), epc, nn_a1]
  · unfold wpY_step
    refine nm_r (e' := nI (G * 12)) (by rw [nI_pred, nn_m12]) ⟨pk_in _ 96 (by omega) (nn_a8 _) (by decide), nm_r (e' := nI b) (by rw [nn_a8, nI_clamp (by omega)]; exact ebl) ⟨pk_in _ 96 (by omega) (nn_a9 _) (by decide), nm_r (e' := nI p) (by rw [nn_a9, nI_clamp (by omega)]; exact epc) ⟨vp_in_nI hb (by decide), ?_⟩⟩⟩
    rw [nI_clamp (n := b) (by omega), hlb]
    rw [nn_ct]
    refine br_f (nI_ge (by omega) (by omega)) ⟨vp_in_nI (by omega) (by decide), ?_⟩
    rw [nI_clamp (n := (b * 32 + p) * 4) (by omega), eo]
    refine br_f (by decide) (nm_e ⟨vp_in_nI (by omega) (by decide), nm_r (e' := nI 2) (by rw [nI_clamp (by omega)]; exact eo) ⟨pk_in _ 512 (by omega) (nn_a1 _) (by decide), nm_r (e' := nI A) (by rw [nn_a1, nI_clamp (by omega)]; exact ea) ⟨pk_in _ 512 (by omega) (nn_a2 _) (by decide), nm_r (e' := nI B) (by rw [nn_a2, nI_clamp (by omega)]; exact eB) ⟨pk_in _ 512 (by omega) (nn_a3 _) (by decide), nm_r (e' := nI K) (by rw [nn_a3, nI_clamp (by omega)]; exact eK) (nm_r (nn_a1 p) ?_)⟩⟩⟩⟩)
    refine br_f (by decide) (br_f (by decide) (br_f (by decide) (br_f (by decide) (br_f (by decide) (br_f (by decide) (br_f (by decide) (br_f (by decide) (br_t (by decide) ?_))))))))
    rw [nn_clA (a := G * 12) (b := K) (by omega)]
    have Q : wY_step_538 post (nI (G * 12)) (nI A) (nI B) (nI (p + 1)) (fr (G * 12 + K)) cc (nI H) (nI D) sel yec yep cs ms (nI O) (nI U) (nI (G + 1)) ych fk pn pi ln pg rc sn si sf tn ti tf he ou fr → ((0 ≤ fr (G * 12 + K) → wY_step_538 post (nI (G * 12)) (nI A) (nI B) (nI (p + 1)) (fr (G * 12 + K)) cc (nI H) (nI D) sel yec yep cs ms (nI O) (nI U) (nI (G + 1)) ych fk pn pi ln pg rc sn si sf tn ti tf he ou fr) ∧ (¬ 0 ≤ fr (G * 12 + K) → (vp_in (nI B) 4 ∧ ((pn (nI B).toNatClampNeg = 0 → post (cc, (nI H), (nI D), sel, yec, yep, cs, 24, (nI O), (nI U), (nI (G + 1)), ych, fk, pn, pi, ln, pg, rc, sn, si, sf, tn, ti, tf, he, ou, fr)) ∧ (¬ pn (nI B).toNatClampNeg = 0 → wY_step_538 post (nI (G * 12)) (nI A) (nI B) (nI (p + 1)) (fr (G * 12 + K)) cc (nI H) (nI D) sel yec yep cs ms (nI O) (nI U) (nI (G + 1)) ych fk pn pi ln pg rc sn si sf tn ti tf he ou fr))))) := by
      intro g
      refine br_c (fun z => g) (fun z => ⟨vp_in_nI hB.2 (by decide), ?_⟩)
      rw [nI_clamp (n := B) (by omega)]
      exact br_f (fun z2 => e ⟨(nv_lt (by omega) hv).mp (Int32.not_le.mp z), z2⟩) g
    refine ⟨nn_inA (by omega) (by decide), nm_e (Q ?_)⟩
    unfold wY_step_538
    exact br_f (fun z => e2 ((nI_eq (by omega) (by omega)).mp z)) (br_f (fun z => e3 ((nI_eq (by omega) (by omega)).mp z)) (nm_r (nn_a1 O) (ym_593 (by omega) (by omega) h)))
theorem st_ret (hD : D ≤ 8) (hM : nv_M O (G + 1) U H D he fr) : ∃ (ms' : Int32) (F' : Nat) (fr' : Nat → Int32), 1 ≤ F' ∧ nv_M O F' U H D he fr' ∧ (∀ post : SX → Prop, post (cc, (nI H), (nI D), sel, cs, ec, ep, ms', (nI O), (nI F'), (nI U), fk, pn, pi, ln, pg, so, ed, he, fr', ou) → wpX_stepReturn post (cc, (nI H), (nI D), sel, cs, ec, ep, ms, (nI O), (nI (G + 1)), (nI U), fk, pn, pi, ln, pg, so, ed, he, fr, ou) (nI (G * 12))) ∧ (∀ (yec yep ych : Int32) (post : SY → Prop), post (cc, (nI H), (nI D), sel, yec, yep, cs, ms', (nI O), (nI U), (nI F'), ych, fk, pn, pi, ln, pg, rc, sn, si, sf, tn, ti, tf, he, ou, fr') → wY_step_58 post (nI (G * 12)) cc (nI H) (nI D) sel yec yep cs ms (nI O) (nI U) (nI (G + 1)) ych fk pn pi ln pg rc sn si sf tn ti tf he ou fr) := by
  have hF := hM.2.1
  cases G with
  | zero =>
    refine ⟨22, 0 + 1, fr, by omega, hM, fun post h => ?_, fun yec yep ych post h => ?_⟩
    · unfold wpX_stepReturn
      exact br_t rfl h
    · unfold wY_step_58
      exact br_t rfl h
  | succ g =>
    obtain ⟨_, _, _, hk⟩ := hM.2.2.2.2 (g + 1) (by omega)
    obtain ⟨⟨d, hd, ed1⟩, q, hq, eq1⟩ := hk (by omega)
    have n1 : ¬ nI (g + 1 + 1) = 1 := fun z => by
      have := (nl_eq1 (by omega)).mp z
      omega
    refine ⟨ms, g + 1, upd fr (g * 12 + d) (nI q), by omega, nv_Mf (nv_Mpop hM) (fun k hk z => nv_frL z hd (Or.inr ⟨q, hq, rfl⟩)), fun post h => ?_, fun yec yep ych post h => ?_⟩
    · unfold wpX_stepReturn
      refine br_f n1 (nm_r (nn_s12 g) ?_)
      rw [nn_a10, nn_a11, nI_clamp (n := (g + 1) * 12 + 10) (by omega), nI_clamp (n := (g + 1) * 12 + 11) (by omega), ed1, eq1, nn_clA (by omega), nI_pred]
      exact ⟨vp_in_nI (by omega) (by decide), vp_in_nI (by omega) (by decide), nn_inA (by omega) (by decide), nm_e (nm_e h)⟩
    · unfold wY_step_58
      refine br_f n1 ?_
      rw [nn_a10, nn_a11, nI_clamp (n := (g + 1) * 12 + 10) (by omega), nI_clamp (n := (g + 1) * 12 + 11) (by omega), ed1, eq1]
      refine ⟨vp_in_nI (by omega) (by decide), nm_e ⟨vp_in_nI (by omega) (by decide), nm_e (nm_r (nI_pred (g + 1)) ?_)⟩⟩
      rw [nI_pred, nn_m12, nn_clA (by omega)]
      exact ⟨nn_inA (by omega) (by decide), nm_e h⟩
theorem st_end (hD : D ≤ 8) (hM : nv_M O (G + 1) U H D he fr) (hb : b < 4) (ebl : fr (G * 12 + 8) = nI b) (epc : fr (G * 12 + 9) = nI p) (hp : p < 33) (hlb : ln b = nI l) (hl2 : l ≤ 32) (hpl : l ≤ p) : nf_st G O U H D cc sel cs ec ep ms fk pn pi ln pg so ed he fr ou rc sn si sf tn ti tf := by
  have hF := hM.2.1
  obtain ⟨ms', F', fr', h1, h2, hX, hY⟩ := st_ret (cc := cc) (sel := sel) (cs := cs) (ec := ec) (ep := ep) (ms := ms) (fk := fk) (pn := pn) (pi := pi) (ln := ln) (pg := pg) (so := so) (ed := ed) (ou := ou) (rc := rc) (sn := sn) (si := si) (sf := sf) (tn := tn) (ti := ti) (tf := tf) hD hM
  refine ⟨ms', O, F', U, he, fr', ou, h1, h2, fun post h => ?_, fun yec yep ych post h => ?_⟩
  · unfold wpX_step
    refine nm_r (e' := nI (G * 12)) (by rw [nI_pred, nn_m12]) ⟨pk_in _ 96 (by omega) (nn_a8 _) (by decide), nm_r (e' := nI b) (by rw [nn_a8, nI_clamp (by omega)]; exact ebl) ⟨pk_in _ 96 (by omega) (nn_a9 _) (by decide), nm_r (e' := nI p) (by rw [nn_a9, nI_clamp (by omega)]; exact epc) ⟨vp_in_nI hb (by decide), ?_⟩⟩⟩
    rw [nI_clamp (n := b) (by omega), hlb]
    exact br_f (nI_nlt (by omega) (by omega)) (hX _ h)
  · unfold wpY_step
    refine nm_r (e' := nI (G * 12)) (by rw [nI_pred, nn_m12]) ⟨pk_in _ 96 (by omega) (nn_a8 _) (by decide), nm_r (e' := nI b) (by rw [nn_a8, nI_clamp (by omega)]; exact ebl) ⟨pk_in _ 96 (by omega) (nn_a9 _) (by decide), nm_r (e' := nI p) (by rw [nn_a9, nI_clamp (by omega)]; exact epc) ⟨vp_in_nI hb (by decide), ?_⟩⟩⟩
    rw [nI_clamp (n := b) (by omega), hlb]
    exact br_t (nI_le (by omega) (by omega)) (hY yec yep ych _ h)
theorem st_8 (hD : D ≤ 8) (hH : H ≤ 32) (hM : nv_M O (G + 1) U H D he fr) (hb : b < 4) (ebl : fr (G * 12 + 8) = nI b) (epc : fr (G * 12 + 9) = nI p) (hlb : ln b = nI l) (hl2 : l ≤ 32) (hp : p < l) (ea : pg ((b * 32 + p) * 4 + 1) = nI A) (eB : pg ((b * 32 + p) * 4 + 2) = nI B) (eK : pg ((b * 32 + p) * 4 + 3) = nI K) (eo : pg ((b * 32 + p) * 4) = nI 8) : nf_st G O U H D cc sel cs ec ep ms fk pn pi ln pg so ed he fr ou rc sn si sf tn ti tf := by
  have hF := hM.2.1
  obtain ⟨ms', F', fr', h1, h2, hX, hY⟩ := st_ret (cc := cc) (sel := sel) (cs := cs) (ec := ec) (ep := ep) (ms := ms) (fk := fk) (pn := pn) (pi := pi) (ln := ln) (pg := pg) (so := so) (ed := ed) (ou := ou) (rc := rc) (sn := sn) (si := si) (sf := sf) (tn := tn) (ti := ti) (tf := tf) hD hM
  refine ⟨ms', O, F', U, he, fr', ou, h1, h2, fun post h => ?_, fun yec yep ych post h => ?_⟩
  · unfold wpX_step
    refine nm_r (e' := nI (G * 12)) (by rw [nI_pred, nn_m12]) ⟨pk_in _ 96 (by omega) (nn_a8 _) (by decide), nm_r (e' := nI b) (by rw [nn_a8, nI_clamp (by omega)]; exact ebl) ⟨pk_in _ 96 (by omega) (nn_a9 _) (by decide), nm_r (e' := nI p) (by rw [nn_a9, nI_clamp (by omega)]; exact epc) ⟨vp_in_nI hb (by decide), ?_⟩⟩⟩
    rw [nI_clamp (n := b) (by omega), hlb]
    refine br_t (nI_lt (by omega) (by omega)) ?_
    unfold wpX_codeAt
    rw [nn_ct]
    refine ⟨vp_in_nI (by omega) (by decide), nm_r (e' := nI 8) (by rw [nI_clamp (by omega)]; exact eo) ⟨pk_in _ 512 (by omega) (nn_a1 _) (by decide), nm_r (e' := nI A) (by rw [nn_a1, nI_clamp (by omega)]; exact ea) ⟨pk_in _ 512 (by omega) (nn_a2 _) (by decide), nm_r (e' := nI B) (by rw [nn_a2, nI_clamp (by omega)]; exact eB) ⟨pk_in _ 512 (by omega) (nn_a3 _) (by decide), nm_r (e' := nI K) (by rw [nn_a3, nI_clamp (by omega)]; exact eK) ?_⟩⟩⟩⟩
    exact br_f (by decide) (br_f (by decide) (br_f (by decide) (br_f (by decide) (br_f (by decide) (br_f (by decide) (br_f (by decide) (br_f (by decide) (br_t (by decide) (hX _ h)))))))))
  · unfold wpY_step
    refine nm_r (e' := nI (G * 12)) (by rw [nI_pred, nn_m12]) ⟨pk_in _ 96 (by omega) (nn_a8 _) (by decide), nm_r (e' := nI b) (by rw [nn_a8, nI_clamp (by omega)]; exact ebl) ⟨pk_in _ 96 (by omega) (nn_a9 _) (by decide), nm_r (e' := nI p) (by rw [nn_a9, nI_clamp (by omega)]; exact epc) ⟨vp_in_nI hb (by decide), ?_⟩⟩⟩
    rw [nI_clamp (n := b) (by omega), hlb]
    rw [nn_ct]
    refine br_f (nI_ge (by omega) (by omega)) ⟨vp_in_nI (by omega) (by decide), ?_⟩
    rw [nI_clamp (n := (b * 32 + p) * 4) (by omega), eo]
    exact br_t (by decide) (hY yec yep ych _ h)
theorem st_both {C : Nat} {L : Nat → Nat} (hD : D ≤ 8) (hH : H ≤ 32) (hC : C ≤ 32) (hln : nv_ln L C ln) (hpg : nv_pg L pg) (hM : nv_M O (G + 1) U H D he fr) : nf_st G O U H D cc sel cs ec ep ms fk pn pi ln pg so ed he fr ou rc sn si sf tn ti tf := by
  obtain ⟨hl, ⟨b, hb, ebl⟩, ⟨p, hp, epc⟩, _⟩ := hM.2.2.2.2 G (by omega)
  obtain ⟨hlb, hlC⟩ := hln b hb
  have hl2 : L b ≤ 32 := by omega
  by_cases hpl : L b ≤ p
  · exact st_end hD hM hb ebl epc hp hlb hl2 hpl
  · have hp2 : p < L b := by omega
    obtain ⟨o, A, B, K, eo, ea, eB, eK, i1, i2, i3, i4, i5, i6, i7, i8, i9⟩ := hpg b hb p hp2
    have ho : o = 0 ∨ o = 1 ∨ o = 2 ∨ o = 3 ∨ o = 4 ∨ o = 5 ∨ o = 6 ∨ o = 7 ∨ o = 8 ∨ o = 9 := by omega
    have hO := hM.1
    rcases ho with rfl | rfl | rfl | rfl | rfl | rfl | rfl | rfl | rfl | rfl
    · exact st_0 hD hH hM hb ebl epc hlb hl2 hp2 ea eB eK eo (i5 (by omega))
    · exact st_1 hD hH hM hb ebl epc hlb hl2 hp2 ea eB eK eo (i5 (by omega)) (i6 (by omega)) (hl B (i6 (by omega)))
    · by_cases e : fr (G * 12 + K) = -1 ∧ pn B = 0
      · exact st_2a hD hH hM hb ebl epc hlb hl2 hp2 ea eB eK eo (i5 (by omega)) (i7 rfl) i4 (hl K i4) e.1 e.2
      · by_cases e2 : G + 1 = D
        · exact st_2b hD hH hM hb ebl epc hlb hl2 hp2 ea eB eK eo (i5 (by omega)) (i7 rfl) i4 (hl K i4) e e2
        · by_cases e3 : O = H
          · exact st_2c hD hH hM hb ebl epc hlb hl2 hp2 ea eB eK eo (i5 (by omega)) (i7 rfl) i4 (hl K i4) e e2 e3
          · exact st_2d hD hH hM hb ebl epc hlb hl2 hp2 ea eB eK eo (i5 (by omega)) (i7 rfl) i4 (hl K i4) e e2 e3
    · rcases hl B (i6 (by omega)) with e | ⟨q, hq, e⟩
      · exact st_3a hD hH hM hb ebl epc hlb hl2 hp2 ea eB eK eo (i5 (by omega)) (i6 (by omega)) (i9 rfl) e
      · have hK := i9 rfl
        rcases hM.2.2.2.1 (q * 4 + K) (by omega) with e2 | ⟨r, hr, e2⟩
        · by_cases e3 : fk K = 0
          · exact st_3b hD hH hM hb ebl epc hlb hl2 hp2 ea eB eK eo (i5 (by omega)) (i6 (by omega)) hK hq e e2 e3
          · exact st_3c hD hH hM hb ebl epc hlb hl2 hp2 ea eB eK eo (i5 (by omega)) (i6 (by omega)) hK hq e e2 e3
        · exact st_3d hD hH hM hb ebl epc hlb hl2 hp2 ea eB eK eo (i5 (by omega)) (i6 (by omega)) hK hq e hr e2
    · rcases hl A (i5 (by omega)) with e | ⟨q, hq, e⟩
      · exact st_4a hD hH hM hb ebl epc hlb hl2 hp2 ea eB eK eo (i5 (by omega)) (i8 rfl) i4 e
      · rcases hl K i4 with e2 | ⟨r, hr, e2⟩
        · by_cases e3 : fk B = 0
          · exact st_4b hD hH hM hb ebl epc hlb hl2 hp2 ea eB eK eo (i5 (by omega)) (i8 rfl) i4 hq e e2 e3
          · exact st_4c hD hH hM hb ebl epc hlb hl2 hp2 ea eB eK eo (i5 (by omega)) (i8 rfl) i4 hq e e2 e3 (hl K i4)
        · exact st_4d hD hH hM hb ebl epc hlb hl2 hp2 ea eB eK eo (i5 (by omega)) (i8 rfl) i4 hq e hr e2 (hl K i4)
    · by_cases e : fr (G * 12 + A) = -1
      · exact st_5a hD hH hM hb ebl epc hlb hl2 hp2 ea eB eK eo (i5 (by omega)) i3 e
      · exact st_5b hD hH hM hb ebl epc hlb hl2 hp2 ea eB eK eo (i5 (by omega)) i3 e
    · by_cases e : fr (G * 12 + A) = -1
      · exact st_6a hD hH hM hb ebl epc hlb hl2 hp2 ea eB eK eo (i5 (by omega)) i3 e
      · exact st_6b hD hH hM hb ebl epc hlb hl2 hp2 ea eB eK eo (i5 (by omega)) i3 e
    · exact st_7 hD hH hM hb ebl epc hlb hl2 hp2 ea eB eK eo i2
    · exact st_8 hD hH hM hb ebl epc hlb hl2 hp2 ea eB eK eo
    · by_cases e : 16 ≤ U
      · exact st_9a hD hH hM hb ebl epc hlb hl2 hp2 ea eB eK eo (i5 (by omega)) e
      · exact st_9b hD hH hM hb ebl epc hlb hl2 hp2 ea eB eK eo (i5 (by omega)) (by omega)
end
end
section
/-! run's loop and check's loop, both sides at once -/
section
variable {cc sel cs ec ep : Int32} {fk pn pi ln pg so ed rc sn si sf tn ti tf : Nat → Int32} {H D C N : Nat} {L : Nat → Nat}
theorem rn_both (hD : D ≤ 8) (hH : H ≤ 32) (hC : C ≤ 32) (hln : nv_ln L C ln) (hpg : nv_pg L pg) (hN : N ≤ 10000) : ∀ d i, i + d = N → ∀ (ms : Int32) (O F U : Nat) (he fr ou : Nat → Int32), 1 ≤ F → nv_M O F U H D he fr → ∃ (ms' : Int32) (O' F' U' : Nat) (he' fr' ou' : Nat → Int32), 1 ≤ F' ∧ nv_M O' F' U' H D he' fr' ∧ (∀ post : Int32 → SX → Prop, post ms' (cc, (nI H), (nI D), sel, cs, ec, ep, ms', (nI O'), (nI F'), (nI U'), fk, pn, pi, ln, pg, so, ed, he', fr', ou') → wX_run_23 post (nI N) (d + 1) (nI i) cc (nI H) (nI D) sel cs ec ep ms (nI O) (nI F) (nI U) fk pn pi ln pg so ed he fr ou) ∧ (∀ (yec yep ych : Int32) (post : Int32 → SY → Prop), post ms' (cc, (nI H), (nI D), sel, yec, yep, cs, ms', (nI O'), (nI U'), (nI F'), ych, fk, pn, pi, ln, pg, rc, sn, si, sf, tn, ti, tf, he', ou', fr') → wY_run_37 post (nI N) (d + 1) (nI i) cc (nI H) (nI D) sel yec yep cs ms (nI O) (nI U) (nI F) ych fk pn pi ln pg rc sn si sf tn ti tf he ou fr) := by
  intro d
  induction d with
  | zero =>
    intro i hi ms O F U he fr ou hF hM
    obtain rfl : i = N := by omega
    refine ⟨ms, O, F, U, he, fr, ou, hF, hM, fun post h => ?_, fun yec yep ych post h => ?_⟩
    · rw [wX_run_23]
      exact br_t (nI_le (Nat.le_refl _) (by omega)) h
    · rw [wY_run_37]
      exact br_t (nI_le (Nat.le_refl _) (by omega)) h
  | succ d ih =>
    intro i hi ms O F U he fr ou hF hM
    have ngt : ¬ nI N ≤ nI i := nI_ge (by omega) (by omega)
    by_cases e : ms = 21
    · obtain ⟨G, rfl⟩ : ∃ G, F = G + 1 := ⟨F - 1, by omega⟩
      obtain ⟨ms1, O1, F1, U1, he1, fr1, ou1, hF1, hM1, hX1, hY1⟩ := st_both (cc := cc) (sel := sel) (cs := cs) (ec := ec) (ep := ep) (ms := ms) (fk := fk) (pn := pn) (pi := pi) (so := so) (ed := ed) (ou := ou) (rc := rc) (sn := sn) (si := si) (sf := sf) (tn := tn) (ti := ti) (tf := tf) hD hH hC hln hpg hM
      obtain ⟨ms', O', F', U', he', fr', ou', hF', hM', hX, hY⟩ := ih (i + 1) (by omega) ms1 O1 F1 U1 he1 fr1 ou1 hF1 hM1
      refine ⟨ms', O', F', U', he', fr', ou', hF', hM', fun post h => ?_, fun yec yep ych post h => ?_⟩
      · rw [wX_run_23]
        exact br_f ngt (br_t e (hX1 _ (nm_r (nI_1 i) (hX post h))))
      · rw [wY_run_37]
        exact br_f ngt (br_t e (hY1 yec yep ych _ (nm_r (nI_1 i) (hY yec yep ych post h))))
    · refine ⟨ms, O, F, U, he, fr, ou, hF, hM, fun post h => ?_, fun yec yep ych post h => ?_⟩
      · rw [wX_run_23]
        exact br_f ngt (br_f e h)
      · rw [wY_run_37]
        exact br_f ngt (br_f e h)
end
section
variable {cc hc md sel cs ec ep ms oc fc uc : Int32} {fk pn pi ln pg he fr ou : Nat → Int32} {C : Nat} {L : Nat → Nat}
theorem ck_both (hC : C ≤ 32) (hde : nv_de fk pn pi) (hln : nv_ln L C ln) (hpg : nv_pg L pg) : ∀ d b, b + d = 4 → ∀ (so ed rc sn si sf tn ti tf : Nat → Int32), nr_S b L so rc sn si sf → (∀ j, b * 33 ≤ j → j < 132 → rc j = 0) → ∃ (so4 ed4 rc4 sn4 si4 sf4 tn4 ti4 tf4 : Nat → Int32) (e pl : Int32), nr_S 4 L so4 rc4 sn4 si4 sf4 ∧ (∀ j, j < b * 264 → so4 j = so j) ∧ (e = 0 → pl = -1) ∧ (∀ post : Int32 → SX → Prop, wX_check_2 post 1 (nI 4) cc hc md sel cs ec ep ms oc fc uc fk pn pi ln pg so4 ed4 he fr ou → wX_check_2 post (d + 1) (nI b) cc hc md sel cs ec ep ms oc fc uc fk pn pi ln pg so ed he fr ou) ∧ (∀ post : SX → Prop, post (cc, hc, md, sel, cs, e, pl, ms, oc, fc, uc, fk, pn, pi, ln, pg, so4, ed4, he, fr, ou) → wX_report_12 post cc hc md sel cs (-1) ms oc fc uc fk pn pi ln pg so4 ed4 he fr ou (d + 1) (nI b) 0) ∧ (∀ (yec yep ych er : Int32) (post : Int32 → SY → Prop), (∀ yec' ych' : Int32, wY_check_31 post 1 (if er = 0 then e else er) (nI 4) cc hc md sel yec' (if er = 0 then (if e = 0 then yep else pl) else yep) cs ms oc uc fc ych' fk pn pi ln pg rc4 sn4 si4 sf4 tn4 ti4 tf4 he ou fr) → wY_check_31 post (d + 1) er (nI b) cc hc md sel yec yep cs ms oc uc fc ych fk pn pi ln pg rc sn si sf tn ti tf he ou fr) := by
  intro d
  induction d with
  | zero =>
    intro b hb so ed rc sn si sf tn ti tf hS hz
    obtain rfl : b = 4 := by omega
    refine ⟨so, ed, rc, sn, si, sf, tn, ti, tf, 0, -1, hS, fun _ _ => rfl, fun _ => rfl, fun post h => h, fun post h => ?_, fun yec yep ych er post h => ?_⟩
    · rw [wX_report_12]
      exact br_t (by decide) h
    · have q := h yec ych
      have k1 : (if er = 0 then 0 else er) = er := by
        by_cases z : er = 0
        · rw [if_pos z, z]
        · rw [if_neg z]
      have k2 : (if er = 0 then (if (0 : Int32) = 0 then yep else -1) else yep) = yep := by
        by_cases z : er = 0
        · rw [if_pos z, if_pos rfl]
        · rw [if_neg z]
      rw [k1, k2] at q
      exact q
  | succ d ih =>
    intro b hb so ed rc sn si sf tn ti tf hS hz
    have hb4 : b < 4 := by omega
    obtain ⟨hlb, hlC⟩ := hln b hb4
    obtain ⟨so1, so', ed', rc', sn', si', sf', tn', ti', tf', hS', hlow, hz', hXe, hXs, hYs⟩ := sv_both (cc := cc) (hc := hc) (md := md) (sel := sel) (cs := cs) (ec := ec) (ep := ep) (ms := ms) (oc := oc) (fc := fc) (uc := uc) (ed := ed) (he := he) (fr := fr) (ou := ou) (tn := tn) (ti := ti) (tf := tf) hb4 hC hde hln hpg hS hz
    obtain ⟨so4, ed4, rc4, sn4, si4, sf4, tn4, ti4, tf4, e1, pl1, hS4, hlow4, hepl, hX1, hX2, hY⟩ := ih (b + 1) (by omega) so' ed' rc' sn' si' sf' tn' ti' tf' hS' (fun j h1 h2 => hz' j (by omega) h2)
    have ngt : ¬ (4 : Int32) ≤ nI b := nn_nge 4 (by omega) (by decide)
    have HX1 : ∀ post : Int32 → SX → Prop, wX_check_2 post 1 (nI 4) cc hc md sel cs ec ep ms oc fc uc fk pn pi ln pg so4 ed4 he fr ou → wX_check_2 post (d + 1 + 1) (nI b) cc hc md sel cs ec ep ms oc fc uc fk pn pi ln pg so ed he fr ou := by
      intro post h
      rw [wX_check_2]
      exact br_f ngt (hXe _ (hXs _ (nm_r (nI_1 b) (hX1 post h))))
    have hq : ∀ p, p ≤ L b → nr_pt so4 rc' sn' si' sf' (b * 33 + p) := fun p hp => nr_frame (hS' b (by omega) p hp) rfl (fun l hl => ⟨hlow4 _ (by omega), rfl, rfl, rfl⟩)
    have HF : ∀ (yec yep ych : Int32) (post : Int32 → SY → Prop) (n : Nat), wY_findErr_7 post (nI b) (ne_ym fk 4) cc hc md sel yec yep cs ms oc uc fc ych fk pn pi ln pg rc' sn' si' sf' tn' ti' tf' he ou fr n 0 → wpY_findErr post (cc, hc, md, sel, yec, yep, cs, ms, oc, uc, fc, ych, fk, pn, pi, ln, pg, rc', sn', si', sf', tn', ti', tf', he, ou, fr) (nI b) := by
      intro yec yep ych post n h
      unfold wpY_findErr
      exact yw_mask ⟨n, h⟩
    rcases rp_in (cc := cc) (hc := hc) (md := md) (sel := sel) (cs := cs) (ep := -1) (ms := ms) (oc := oc) (fc := fc) (uc := uc) (ed := ed4) (he := he) (fr := fr) (ou := ou) (tn := tn') (ti := ti') (tf := tf') hb4 hde.1 hlb (by omega) hpg hq (L b + 1) 0 (by omega) with ⟨hRX, hRY⟩ | ⟨p', e, hp', he0, hRX, hRY⟩
    · refine ⟨so4, ed4, rc4, sn4, si4, sf4, tn4, ti4, tf4, e1, pl1, hS4, fun j hj => (hlow4 j (by omega)).trans (hlow j hj), hepl, HX1, fun post h => ?_, fun yec yep ych er post h => ?_⟩
      · rw [wX_report_12]
        refine br_f ngt ⟨L b + 1 + 1, hRX post _ ?_⟩
        rw [nI_1]
        exact hX2 post h
      · rw [wY_check_31]
        have q := hY yec yep 0 er post h
        exact br_f ngt (hYs yec yep ych _ (HF yec yep 0 _ _ (hRY yec yep 0 _ (br_c (fun _ => br_t (by decide) (nm_r (nI_1 b) q)) (fun _ => nm_r (nI_1 b) q)))))
    · refine ⟨so4, ed4, rc4, sn4, si4, sf4, tn4, ti4, tf4, e, nI (64 * b + p'), hS4, fun j hj => (hlow4 j (by omega)).trans (hlow j hj), fun z => absurd z he0, HX1, fun post h => ?_, fun yec yep ych er post h => ?_⟩
      · rw [wX_report_12]
        exact br_f ngt ⟨L b + 1 + 1, hRX post _ h⟩
      · rw [wY_check_31]
        refine br_f ngt (hYs yec yep ych _ (HF yec yep 0 _ _ (hRY yec yep 0 _ (br_c (fun z => br_f (nI_pos (by omega)) (nm_r (e' := nI (64 * b + p')) (by rw [nn_m64, nI_add]) (nm_r (nI_1 b) (hY e _ 0 e post ?_)))) (fun z => nm_r (nI_1 b) (hY e yep 0 er post ?_))))))
        · intro yec' ych'
          have q := h yec' ych'
          rw [if_pos z, if_pos z, if_neg he0] at q
          rw [if_neg he0, if_neg he0]
          exact q
        · intro yec' ych'
          have q := h yec' ych'
          rw [if_neg z, if_neg z] at q
          rw [if_neg z, if_neg z]
          exact q
end
section
variable {cc hc md sel yec yep cs ms oc uc fc ych : Int32} {fk pn pi ln pg rc sn si sf tn ti tf he ou fr : Nat → Int32}
theorem yc_clear {post : Int32 → SY → Prop} (h : ∃ n, wY_check_31 post n 0 0 cc hc md sel yec (-1) cs ms oc uc fc ych fk pn pi ln pg (na_fi rc 0 132 0) sn si sf tn ti tf he ou fr) : wpY_check post (cc, hc, md, sel, yec, yep, cs, ms, oc, uc, fc, ych, fk, pn, pi, ln, pg, rc, sn, si, sf, tn, ti, tf, he, ou, fr) := by
  have K : ∀ d i, i + d = 132 → wY_check_2 post cc hc md sel yec yep cs ms oc uc fc ych (d + 1) (nI i) fk pn pi ln pg (na_fi rc 0 i 0) sn si sf tn ti tf he ou fr := by
    intro d
    induction d with
    | zero =>
      intro i hi
      obtain rfl : i = 132 := by omega
      rw [wY_check_2]
      exact br_t (by decide) h
    | succ d ih =>
      intro i hi
      rw [wY_check_2]
      refine br_f (nn_nge 132 (by omega) (by decide)) ⟨vp_in_nI (by omega) (by decide), nm_r ?_ (nm_r (nI_1 i) (ih (i + 1) (by omega)))⟩
      rw [nI_clamp (by omega), nn_nb0, na_fiS, Nat.zero_add]
  unfold wpY_check
  refine ⟨133, ?_⟩
  have q := K 132 0 (by omega)
  rw [na_fi0] at q
  exact q
theorem yc_88 {z0 x1 : Int32} {post : Int32 → SY → Prop} (h : post x1 (cc, hc, md, sel, yec, yep, z0, 21, 0, 0, 1, ych, fk, pn, pi, ln, pg, rc, sn, si, sf, tn, ti, tf, he, ou, (upd (upd (upd (upd (na_fi fr 0 8 (-1)) 8 0) 9 0) 10 (-1)) 11 (-1)))) : wY_check_88 post x1 z0 cc hc md sel yec yep cs ms oc uc fc ych fk pn pi ln pg rc sn si sf tn ti tf he ou fr := by
  have K : ∀ d i, i + d = 8 → wY_check_114 post x1 cc hc md sel yec yep z0 21 0 0 1 ych (d + 1) (nI i) fk pn pi ln pg rc sn si sf tn ti tf he ou (na_fi fr 0 i (-1)) := by
    intro d
    induction d with
    | zero =>
      intro i hi
      obtain rfl : i = 8 := by omega
      rw [wY_check_114]
      exact br_t (by decide) (nm_e (nm_e (nm_e (nm_e h))))
    | succ d ih =>
      intro i hi
      rw [wY_check_114]
      refine br_f (nn_nge 8 (by omega) (by decide)) ⟨vp_in_nI (by omega) (by decide), nm_r ?_ (nm_r (nI_1 i) (ih (i + 1) (by omega)))⟩
      rw [nI_clamp (by omega), na_fiS, Nat.zero_add]
  unfold wY_check_88
  refine ⟨9, ?_⟩
  have q := K 8 0 (by omega)
  rw [na_fi0] at q
  exact q
end
end
section
/-! the relation, and the methods that only read -/
def ni_I (C H D O F U s : Nat) (L : Nat → Nat) (cs ep yep : Int32) (fk pn pi ln pg so he fr rc sn si sf : Nat → Int32) : Prop := (8 ≤ C ∧ C ≤ 32 ∧ H ≤ 32 ∧ 1 ≤ D ∧ D ≤ 8 ∧ s < 4) ∧ nv_de fk pn pi ∧ nv_ln L C ln ∧ nv_pg L pg ∧ nv_M O F U H D he fr ∧ (cs = 30 ∨ ((cs = 31 ∨ cs = 32) ∧ 1 ≤ F ∧ nr_S 4 L so rc sn si sf)) ∧ (cs = 32 → yep = ep)
def i_Rel (_ : Nat) (u : SX) (v : SY) : Prop := ∃ (C H D O F U s : Nat) (L : Nat → Nat) (cs ec ep ms yec yep ych : Int32) (fk pn pi ln pg so ed he fr ou rc sn si sf tn ti tf : Nat → Int32), u = ((nI C), (nI H), (nI D), (nI s), cs, ec, ep, ms, (nI O), (nI F), (nI U), fk, pn, pi, ln, pg, so, ed, he, fr, ou) ∧ v = ((nI C), (nI H), (nI D), (nI s), yec, yep, cs, ms, (nI O), (nI U), (nI F), ych, fk, pn, pi, ln, pg, rc, sn, si, sf, tn, ti, tf, he, ou, fr) ∧ ni_I C H D O F U s L cs ep yep fk pn pi ln pg so he fr rc sn si sf
theorem i_up {k : Nat} {u : SX} {v : SY} (h : i_Rel k u v) : i_Rel (k + 5) u v := h
theorem ni_mk {k C H D O F U s : Nat} {L : Nat → Nat} {cs ec ep ms yec yep ych : Int32} {fk pn pi ln pg so ed he fr ou rc sn si sf tn ti tf : Nat → Int32} (h : ni_I C H D O F U s L cs ep yep fk pn pi ln pg so he fr rc sn si sf) : i_Rel k ((nI C), (nI H), (nI D), (nI s), cs, ec, ep, ms, (nI O), (nI F), (nI U), fk, pn, pi, ln, pg, so, ed, he, fr, ou) ((nI C), (nI H), (nI D), (nI s), yec, yep, cs, ms, (nI O), (nI U), (nI F), ych, fk, pn, pi, ln, pg, rc, sn, si, sf, tn, ti, tf, he, ou, fr) := ⟨C, H, D, O, F, U, s, L, cs, ec, ep, ms, yec, yep, ych, fk, pn, pi, ln, pg, so, ed, he, fr, ou, rc, sn, si, sf, tn, ti, tf, rfl, rfl, h⟩
theorem ni_edit {C H D O F U s : Nat} {L L' : Nat → Nat} {cs ep yep : Int32} {fk pn pi ln pg so he fr rc sn si sf fk' pn' pi' ln' pg' : Nat → Int32} (h : ni_I C H D O F U s L cs ep yep fk pn pi ln pg so he fr rc sn si sf) (hde : nv_de fk' pn' pi') (hln : nv_ln L' C ln') (hpg : nv_pg L' pg') : ni_I C H D 0 0 0 s L' 30 ep yep fk' pn' pi' ln' pg' so he fr rc sn si sf := ⟨h.1, hde, hln, hpg, nv_M0, Or.inl rfl, fun z => absurd z (by decide)⟩
theorem xs_wl {post : Int32 → Prop} {x a b : Int32} (h : x < a) (p : post 0) : wpX_within post x a b := by
  unfold wpX_within
  exact br_t h p
theorem xs_wh {post : Int32 → Prop} {x a b : Int32} (h : ¬ x < a) (h2 : b < x) (p : post 0) : wpX_within post x a b := by
  unfold wpX_within
  exact br_f h (br_t h2 p)
theorem xs_wi {post : Int32 → Prop} {x a b : Int32} (h : ¬ x < a) (h2 : ¬ b < x) (p : post 1) : wpX_within post x a b := by
  unfold wpX_within
  exact br_f h (br_f h2 p)
theorem xs_w0 {post : Int32 → Prop} {x a b : Int32} (h : x < a ∨ b < x) (p : post 0) : wpX_within post x a b := by
  unfold wpX_within
  by_cases e : x < a
  · exact br_t e p
  · exact br_f e (br_t (h.resolve_left e) p)
theorem nn_n2 {j n : Nat} (h : j ≤ n) (hn : n < 2 ^ 31) : ¬ nI n < nI j := nI_nlt h hn
theorem i_vc_errorWhere {k : Nat} {u : SX} {v : SY} (I : i_Rel k u v) (hk : k + 5 ≤ 2563) : wpX_errorWhere (fun r => wpY_errorWhere (fun r' => r' = r ∧ i_Rel (k + 5) u v) v) u := by
  have J : i_Rel (k + 5) u v := i_up I
  obtain ⟨C, H, D, O, F, U, s, L, cs, ec, ep, ms, yec, yep, ych, fk, pn, pi, ln, pg, so, ed, he, fr, ou, rc, sn, si, sf, tn, ti, tf, rfl, rfl, hI⟩ := I
  unfold wpX_errorWhere wpY_errorWhere
  refine br_c (fun e => br_t e ⟨hI.2.2.2.2.2.2 e, J⟩) (fun e => br_f e ⟨rfl, J⟩)
theorem i_vc_select {k : Nat} {u : SX} {v : SY} (I : i_Rel k u v) (hk : k + 5 ≤ 2563) (v1 : Int32) : wpX_select (fun r u' => wpY_select (fun r' v' => r' = r ∧ i_Rel (k + 5) u' v') v v1) u v1 := by
  have J : i_Rel (k + 5) u v := i_up I
  obtain ⟨C, H, D, O, F, U, s, L, cs, ec, ep, ms, yec, yep, ych, fk, pn, pi, ln, pg, so, ed, he, fr, ou, rc, sn, si, sf, tn, ti, tf, rfl, rfl, hI⟩ := I
  unfold wpX_select wpY_select
  rcases nn_rng v1 3 (by omega) with ⟨j, hj, rfl⟩ | ⟨h1, h2, h3, h4⟩ | ⟨h1, h2, h3, h4⟩
  · refine xs_wi (nI_pos (by omega)) (nn_n2 hj (by decide)) (br_f (by decide) ?_)
    refine br_f (nI_pos (by omega)) (br_t (nI_le hj (by decide)) ⟨rfl, ni_mk ⟨⟨hI.1.1, hI.1.2.1, hI.1.2.2.1, hI.1.2.2.2.1, hI.1.2.2.2.2.1, by omega⟩, hI.2⟩⟩)
  · exact xs_wl h1 (br_t rfl (br_t h1 ⟨rfl, J⟩))
  · exact xs_wh h1 h3 (br_t rfl (br_f h1 (br_f h4 ⟨rfl, J⟩)))
theorem i_vc_declareField {k : Nat} {u : SX} {v : SY} (I : i_Rel k u v) (hk : k + 5 ≤ 2563) (v1 : Int32) (v2 : Int32) : wpX_declareField (fun r u' => wpY_declareField (fun r' v' => r' = r ∧ i_Rel (k + 5) u' v') v v1 v2) u v1 v2 := by
  have J : i_Rel (k + 5) u v := i_up I
  obtain ⟨C, H, D, O, F, U, s, L, cs, ec, ep, ms, yec, yep, ych, fk, pn, pi, ln, pg, so, ed, he, fr, ou, rc, sn, si, sf, tn, ti, tf, rfl, rfl, hI⟩ := I
  unfold wpX_declareField wpY_declareField
  rcases nn_rng v1 3 (by omega) with ⟨j, hj, rfl⟩ | ⟨h1, h2, h3, h4⟩ | ⟨h1, h2, h3, h4⟩
  · have a1 : ¬ nI j < 0 := nI_pos (by omega)
    have a2 : ¬ (3 : Int32) < nI j := nn_n2 (n := 3) hj (by omega)
    rcases nn_rng v2 1 (by omega) with ⟨m, hm, rfl⟩ | ⟨h1, h2, h3, h4⟩ | ⟨h1, h2, h3, h4⟩
    · refine xs_wi a1 a2 (br_f (by decide) (xs_wi (nI_pos (by omega)) (nn_n2 hm (by decide)) (br_f (by decide) ⟨vp_in_nI (by omega) (by decide), nm_r (e' := upd fk j (nI m)) (by rw [nI_clamp (by omega)]) ?_⟩)))
      refine br_f a1 (br_f a2 (br_f (nI_pos (by omega)) (br_t (nI_le hm (by decide)) ⟨vp_in_nI (by omega) (by decide), nm_r (e' := upd fk j (nI m)) (by rw [nI_clamp (by omega)]) ⟨rfl, ?_⟩⟩)))
      refine ni_mk (O := 0) (F := 0) (U := 0) (ni_edit hI ⟨fun i hi => ?_, hI.2.1.2⟩ hI.2.2.1 hI.2.2.2.1)
      unfold upd
      split
      · have : m = 0 ∨ m = 1 := by omega
        rcases this with rfl | rfl
        · exact Or.inl rfl
        · exact Or.inr rfl
      · exact hI.2.1.1 i hi
    · exact xs_wi a1 a2 (br_f (by decide) (xs_wl h1 (br_t rfl (br_f a1 (br_f a2 (br_t h1 ⟨rfl, J⟩))))))
    · exact xs_wi a1 a2 (br_f (by decide) (xs_wh h1 h3 (br_t rfl (br_f a1 (br_f a2 (br_f h1 (br_f h4 ⟨rfl, J⟩)))))))
  · exact xs_wl h1 (br_t rfl (br_t h1 ⟨rfl, J⟩))
  · exact xs_wh h1 h3 (br_t rfl (br_f h1 (br_t h3 ⟨rfl, J⟩)))
theorem i_vc_declareParam {k : Nat} {u : SX} {v : SY} (I : i_Rel k u v) (hk : k + 5 ≤ 2563) (v1 : Int32) (v2 : Int32) (v3 : Int32) : wpX_declareParam (fun r u' => wpY_declareParam (fun r' v' => r' = r ∧ i_Rel (k + 5) u' v') v v1 v2 v3) u v1 v2 v3 := by
  have J : i_Rel (k + 5) u v := i_up I
  obtain ⟨C, H, D, O, F, U, s, L, cs, ec, ep, ms, yec, yep, ych, fk, pn, pi, ln, pg, so, ed, he, fr, ou, rc, sn, si, sf, tn, ti, tf, rfl, rfl, hI⟩ := I
  unfold wpX_declareParam wpY_declareParam
  by_cases b1 : v1 < 1
  · exact xs_wl b1 (br_t rfl (br_t b1 ⟨rfl, J⟩))
  · by_cases b2 : 3 < v1
    · exact xs_wh b1 b2 (br_t rfl (br_f b1 (br_t b2 ⟨rfl, J⟩)))
    · by_cases c1 : v2 < 0
      · exact xs_wi b1 b2 (br_f (by decide) (xs_wl c1 (br_t rfl (br_f b1 (br_f b2 (br_t c1 ⟨rfl, J⟩))))))
      · by_cases c2 : 1 < v2
        · exact xs_wi b1 b2 (br_f (by decide) (xs_wh c1 c2 (br_t rfl (br_f b1 (br_f b2 (br_f c1 (br_t c2 ⟨rfl, J⟩)))))))
        · by_cases d1 : v3 < 0
          · exact xs_wi b1 b2 (br_f (by decide) (xs_wi c1 c2 (br_f (by decide) (xs_wl d1 (br_t rfl (br_f b1 (br_f b2 (br_f c1 (br_f c2 (br_t d1 ⟨rfl, J⟩))))))))))
          · by_cases d2 : 2 < v3
            · exact xs_wi b1 b2 (br_f (by decide) (xs_wi c1 c2 (br_f (by decide) (xs_wh d1 d2 (br_t rfl (br_f b1 (br_f b2 (br_f c1 (br_f c2 (br_f d1 (br_f (Int32.not_le.mpr d2) ⟨rfl, J⟩)))))))))))
            · have e1 : ¬ v1 < 0 := fun z => b1 (Int32.lt_trans z (by decide))
              obtain ⟨j, hj, rfl⟩ := nI_of e1
              obtain ⟨m, hm, rfl⟩ := nI_of c1
              obtain ⟨n, hn, rfl⟩ := nI_of d1
              have j2 : ¬ 3 < j := fun z => b2 ((nl_gt3 hj).mpr z)
              have m2 : ¬ 1 < m := fun z => c2 ((nl_gt1 hm).mpr z)
              have n2 : ¬ 2 < n := fun z => d2 ((nl_gt2 hn).mpr z)
              have vj : vp_in (nI j) 4 := vp_in_nI (by omega) (by decide)
              have cj : (nI j).toNatClampNeg = j := nI_clamp hj
              refine xs_wi b1 b2 (br_f (by decide) (xs_wi c1 c2 (br_f (by decide) (xs_wi d1 d2 (br_f (by decide) ⟨vj, nm_r (e' := upd pn j (nI m)) (by rw [cj]) ⟨vj, nm_r (e' := upd pi j (nI n)) (by rw [cj]) ?_⟩⟩)))))
              refine br_f b1 (br_f b2 (br_f c1 (br_f c2 (br_f d1 (br_t (Int32.not_lt.mp d2) ⟨vj, nm_r (e' := upd pn j (nI m)) (by rw [cj]) ⟨vj, nm_r (e' := upd pi j (nI n)) (by rw [cj]) ⟨rfl, ?_⟩⟩⟩)))))
              refine ni_mk (O := 0) (F := 0) (U := 0) (ni_edit hI ⟨hI.2.1.1, fun i hi => ?_, fun i hi => ?_⟩ hI.2.2.1 hI.2.2.2.1)
              · unfold upd
                split
                · have : m = 0 ∨ m = 1 := by omega
                  rcases this with rfl | rfl
                  · exact Or.inl rfl
                  · exact Or.inr rfl
                · exact hI.2.1.2.1 i hi
              · unfold upd
                split
                · have : n = 0 ∨ n = 1 ∨ n = 2 := by omega
                  rcases this with rfl | rfl | rfl
                  · exact Or.inl rfl
                  · exact Or.inr (Or.inl rfl)
                  · exact Or.inr (Or.inr rfl)
                · exact hI.2.1.2.2 i hi
theorem i_vc_out {k : Nat} {u : SX} {v : SY} (I : i_Rel k u v) (hk : k + 5 ≤ 2563) (v1 : Int32) : wpX_out (fun r => wpY_out (fun r' => r' = r ∧ i_Rel (k + 5) u v) v v1) u v1 := by
  have J : i_Rel (k + 5) u v := i_up I
  obtain ⟨C, H, D, O, F, U, s, L, cs, ec, ep, ms, yec, yep, ych, fk, pn, pi, ln, pg, so, ed, he, fr, ou, rc, sn, si, sf, tn, ti, tf, rfl, rfl, hI⟩ := I
  have hU := hI.2.2.2.2.1.2.2.1
  unfold wpX_out wpY_out
  by_cases a1 : v1 < 0
  · exact xs_wl a1 (br_t rfl (br_t a1 ⟨rfl, J⟩))
  · obtain ⟨j, hj, rfl⟩ := nI_of a1
    by_cases a2 : j < U
    · refine xs_wi a1 (Int32.not_lt.mpr ((nl_pre hj (by omega)).mpr a2)) (br_f (by decide) ⟨vp_in_nI (by omega) (by decide), ?_⟩)
      exact br_f a1 (br_t (nI_lt a2 (by omega)) ⟨vp_in_nI (by omega) (by decide), rfl, J⟩)
    · refine xs_wh a1 (Int32.not_le.mp (fun z => a2 ((nl_pre hj (by omega)).mp z))) (br_t rfl ?_)
      exact br_f a1 (br_f (nI_nlt (by omega) (by omega)) ⟨rfl, J⟩)
theorem i_vc_field {k : Nat} {u : SX} {v : SY} (I : i_Rel k u v) (hk : k + 5 ≤ 2563) (v1 : Int32) (v2 : Int32) : wpX_field (fun r => wpY_field (fun r' => r' = r ∧ i_Rel (k + 5) u v) v v1 v2) u v1 v2 := by
  have J : i_Rel (k + 5) u v := i_up I
  obtain ⟨C, H, D, O, F, U, s, L, cs, ec, ep, ms, yec, yep, ych, fk, pn, pi, ln, pg, so, ed, he, fr, ou, rc, sn, si, sf, tn, ti, tf, rfl, rfl, hI⟩ := I
  have hO := hI.2.2.2.2.1.1
  have hH := hI.1.2.2.1
  unfold wpX_field wpY_field
  by_cases a1 : v1 < 0
  · exact xs_wl a1 (br_t rfl (br_t a1 ⟨rfl, J⟩))
  · obtain ⟨j, hj, rfl⟩ := nI_of a1
    by_cases a2 : j < O
    · have w2 : ¬ nI O - 1 < nI j := Int32.not_lt.mpr ((nl_pre hj (by omega)).mpr a2)
      have y2 : ¬ nI O ≤ nI j := nI_ge a2 (by omega)
      rcases nn_rng v2 3 (by omega) with ⟨m, hm, rfl⟩ | ⟨h1, h2, h3, h4⟩ | ⟨h1, h2, h3, h4⟩
      · refine xs_wi a1 w2 (br_f (by decide) (xs_wi (nI_pos (by omega)) (nn_n2 hm (by decide)) (br_f (by decide) ?_)))
        rw [nn_m4, nn_clA (by omega)]
        exact ⟨nn_inA (by omega) (by decide), br_f a1 (br_f y2 (br_f (nI_pos (by omega)) (br_t (nI_le hm (by decide)) ⟨nn_inA (by omega) (by decide), rfl, J⟩)))⟩
      · exact xs_wi a1 w2 (br_f (by decide) (xs_wl h1 (br_t rfl (br_f a1 (br_f y2 (br_t h1 ⟨rfl, J⟩))))))
      · exact xs_wi a1 w2 (br_f (by decide) (xs_wh h1 h3 (br_t rfl (br_f a1 (br_f y2 (br_f h1 (br_f h4 ⟨rfl, J⟩)))))))
    · refine xs_wh a1 (Int32.not_le.mp (fun z => a2 ((nl_pre hj (by omega)).mp z))) (br_t rfl ?_)
      exact br_f a1 (br_t (nI_le (by omega) (by omega)) ⟨rfl, J⟩)
theorem i_vc_frame {k : Nat} {u : SX} {v : SY} (I : i_Rel k u v) (hk : k + 5 ≤ 2563) (v1 : Int32) (v2 : Int32) : wpX_frame (fun r => wpY_frame (fun r' => r' = r ∧ i_Rel (k + 5) u v) v v1 v2) u v1 v2 := by
  have J : i_Rel (k + 5) u v := i_up I
  obtain ⟨C, H, D, O, F, U, s, L, cs, ec, ep, ms, yec, yep, ych, fk, pn, pi, ln, pg, so, ed, he, fr, ou, rc, sn, si, sf, tn, ti, tf, rfl, rfl, hI⟩ := I
  have hO := hI.2.2.2.2.1.2.1
  have hH := hI.1.2.2.2.2.1
  unfold wpX_frame wpY_frame
  by_cases a1 : v1 < 0
  · exact xs_wl a1 (br_t rfl (br_t a1 ⟨rfl, J⟩))
  · obtain ⟨j, hj, rfl⟩ := nI_of a1
    by_cases a2 : j < F
    · have w2 : ¬ nI F - 1 < nI j := Int32.not_lt.mpr ((nl_pre hj (by omega)).mpr a2)
      have y2 : ¬ nI F ≤ nI j := nI_ge a2 (by omega)
      rcases nn_rng v2 11 (by omega) with ⟨m, hm, rfl⟩ | ⟨h1, h2, h3, h4⟩ | ⟨h1, h2, h3, h4⟩
      · refine xs_wi a1 w2 (br_f (by decide) (xs_wi (nI_pos (by omega)) (nn_n2 hm (by decide)) (br_f (by decide) ?_)))
        rw [nn_m12, nn_clA (by omega)]
        exact ⟨nn_inA (by omega) (by decide), br_f a1 (br_f y2 (br_f (nI_pos (by omega)) (br_t (nI_le hm (by decide)) ⟨nn_inA (by omega) (by decide), rfl, J⟩)))⟩
      · exact xs_wi a1 w2 (br_f (by decide) (xs_wl h1 (br_t rfl (br_f a1 (br_f y2 (br_t h1 ⟨rfl, J⟩))))))
      · exact xs_wi a1 w2 (br_f (by decide) (xs_wh h1 h3 (br_t rfl (br_f a1 (br_f y2 (br_f h1 (br_f h4 ⟨rfl, J⟩)))))))
    · refine xs_wh a1 (Int32.not_le.mp (fun z => a2 ((nl_pre hj (by omega)).mp z))) (br_t rfl ?_)
      exact br_f a1 (br_t (nI_le (by omega) (by omega)) ⟨rfl, J⟩)
theorem i_vc_code {k : Nat} {u : SX} {v : SY} (I : i_Rel k u v) (hk : k + 5 ≤ 2563) (v1 : Int32) (v2 : Int32) (v3 : Int32) : wpX_code (fun r => wpY_code (fun r' => r' = r ∧ i_Rel (k + 5) u v) v v1 v2 v3) u v1 v2 v3 := by
  have J : i_Rel (k + 5) u v := i_up I
  obtain ⟨C, H, D, O, F, U, s, L, cs, ec, ep, ms, yec, yep, ych, fk, pn, pi, ln, pg, so, ed, he, fr, ou, rc, sn, si, sf, tn, ti, tf, rfl, rfl, hI⟩ := I
  have hC := hI.1.2.1
  unfold wpX_code wpY_code
  rcases nn_rng v1 3 (by omega) with ⟨j, hj, rfl⟩ | ⟨h1, h2, h3, h4⟩ | ⟨h1, h2, h3, h4⟩
  · have a1 : ¬ nI j < 0 := nI_pos (by omega)
    have a2 : ¬ (3 : Int32) < nI j := nn_n2 (n := 3) hj (by omega)
    have vj : vp_in (nI j) 4 := vp_in_nI (by omega) (by decide)
    have cj : (nI j).toNatClampNeg = j := nI_clamp (by omega)
    obtain ⟨hl, hl2⟩ := hI.2.2.1 j (by omega)
    refine xs_wi a1 a2 (br_f (by decide) ⟨vj, ?_⟩)
    rw [cj, hl]
    by_cases b1 : v2 < 0
    · exact xs_wl b1 (br_t rfl (br_f a1 (br_f a2 (br_t b1 ⟨rfl, J⟩))))
    · obtain ⟨p, hp, rfl⟩ := nI_of b1
      by_cases b2 : p < L j
      · have w2 : ¬ nI (L j) - 1 < nI p := Int32.not_lt.mpr ((nl_pre hp (by omega)).mpr b2)
        have y2 : ¬ ln j ≤ nI p := by
          rw [hl]
          exact nI_ge b2 (by omega)
        rcases nn_rng v3 3 (by omega) with ⟨m, hm, rfl⟩ | ⟨h1, h2, h3, h4⟩ | ⟨h1, h2, h3, h4⟩
        · refine xs_wi b1 w2 (br_f (by decide) (xs_wi (nI_pos (by omega)) (nn_n2 hm (by decide)) (br_f (by decide) ?_)))
          unfold wpX_codeAt
          rw [nn_ct]
          refine ⟨nn_inA (by omega) (by decide), ?_⟩
          rw [nn_clA (by omega)]
          refine br_f a1 (br_f a2 (br_f b1 ⟨vj, ?_⟩))
          refine br_f y2 (br_f (nI_pos (by omega)) (br_t (nI_le hm (by decide)) ⟨nn_inA (by omega) (by decide), rfl, J⟩))
        · exact xs_wi b1 w2 (br_f (by decide) (xs_wl h1 (br_t rfl (br_f a1 (br_f a2 (br_f b1 ⟨vj, br_f y2 (br_t h1 ⟨rfl, J⟩)⟩))))))
        · exact xs_wi b1 w2 (br_f (by decide) (xs_wh h1 h3 (br_t rfl (br_f a1 (br_f a2 (br_f b1 ⟨vj, br_f y2 (br_f h1 (br_f h4 ⟨rfl, J⟩))⟩))))))
      · refine xs_wh b1 (Int32.not_le.mp (fun z => b2 ((nl_pre hp (by omega)).mp z))) (br_t rfl ?_)
        exact br_f a1 (br_f a2 (br_f b1 ⟨vj, br_t (by rw [hl]; exact nI_le (by omega) (by omega)) ⟨rfl, J⟩⟩))
  · exact xs_wl h1 (br_t rfl (br_t h1 ⟨rfl, J⟩))
  · exact xs_wh h1 h3 (br_t rfl (br_f h1 (br_t h3 ⟨rfl, J⟩)))
end
section
/-! state, info, run, check -/
theorem i_vc_state {k : Nat} {u : SX} {v : SY} (I : i_Rel k u v) (hk : k + 5 ≤ 2563) (v1 : Int32) (v2 : Int32) (v3 : Int32) : wpX_state (fun r => wpY_state (fun r' => r' = r ∧ i_Rel (k + 5) u v) v v1 v2 v3) u v1 v2 v3 := by
  have J : i_Rel (k + 5) u v := i_up I
  obtain ⟨C, H, D, O, F, U, s, L, cs, ec, ep, ms, yec, yep, ych, fk, pn, pi, ln, pg, so, ed, he, fr, ou, rc, sn, si, sf, tn, ti, tf, rfl, rfl, hI⟩ := I
  have hC := hI.1.2.1
  unfold wpX_state wpY_state
  by_cases c0 : cs = 30
  · exact br_t c0 (br_t c0 ⟨rfl, J⟩)
  · have hS : nr_S 4 L so rc sn si sf := (hI.2.2.2.2.2.1.resolve_left c0).2.2
    refine br_f c0 ?_
    rcases nn_rng v1 3 (by omega) with ⟨j, hj, rfl⟩ | ⟨h1, h2, h3, h4⟩ | ⟨h1, h2, h3, h4⟩
    · have a1 : ¬ nI j < 0 := nI_pos (by omega)
      have a2 : ¬ (3 : Int32) < nI j := nn_n2 (n := 3) hj (by decide)
      have vj : vp_in (nI j) 4 := vp_in_nI (by omega) (by decide)
      have cj : (nI j).toNatClampNeg = j := nI_clamp (by omega)
      obtain ⟨hl, hl2⟩ := hI.2.2.1 j (by omega)
      refine xs_wi a1 a2 (br_f (by decide) ⟨vj, ?_⟩)
      rw [cj, hl]
      by_cases b1 : v2 < 0
      · exact xs_wl b1 (br_t rfl (br_f c0 (br_f a1 (br_f a2 (br_t b1 ⟨rfl, J⟩)))))
      · obtain ⟨p, hp, rfl⟩ := nI_of b1
        by_cases b2 : p ≤ L j
        · have w2 : ¬ nI (L j) < nI p := nI_nlt b2 (by omega)
          have y2 : ¬ ln j < nI p := by
            rw [hl]
            exact w2
          rcases nn_rng v3 7 (by omega) with ⟨m, hm, rfl⟩ | ⟨h1, h2, h3, h4⟩ | ⟨h1, h2, h3, h4⟩
          · have g1 : ¬ nI m < 0 := nI_pos (by omega)
            have g2 : ¬ (7 : Int32) < nI m := nn_n2 (n := 7) hm (by decide)
            refine xs_wi b1 w2 (br_f (by decide) (xs_wi g1 g2 (br_f (by decide) ?_)))
            unfold wpX_stateAt
            rw [nn_st]
            refine ⟨nn_inA (by omega) (by decide), ?_⟩
            rw [nn_clA (by omega)]
            have v2 : vp_in (nI (j * 33 + p)) 132 := vp_in_nI (by omega) (by decide)
            have c2 : (nI (j * 33 + p)).toNatClampNeg = j * 33 + p := nI_clamp (by omega)
            have v3 : vp_in (nI ((j * 33 + p) * 8) + nI m) 1056 := nn_inA (by omega) (by decide)
            have c3 : (nI ((j * 33 + p) * 8) + nI m).toNatClampNeg = (j * 33 + p) * 8 + m := nn_clA (by omega)
            refine br_f c0 (br_f a1 (br_f a2 (br_f b1 ⟨vj, br_f y2 ?_⟩)))
            unfold wpY_loc
            refine br_f g1 (br_f g2 (br_f (by decide) ?_))
            rw [nn_m33, nI_add, c2]
            refine ⟨v2, ?_⟩
            rcases hS j (by omega) p b2 with ⟨z1, z2⟩ | ⟨z1, z2⟩
            · exact br_t z1 ⟨(z2 m (by omega)).symm, J⟩
            · refine br_f (by rw [z1]; decide) (nm_e ?_)
              rw [c3]
              refine ⟨v3, v3, v3, ?_, J⟩
              obtain ⟨c, ⟨hc1, hc2⟩, e1, e2, e3, e4⟩ := z2 m (by omega)
              rw [e1, e2, e3, e4, show (2 : Int32) = nI 2 from rfl, show (8 : Int32) = nI 8 from rfl, pk_mul, pk_mul, nI_add, nI_add]
              exact congrArg nI (by omega)
          · refine xs_wi b1 w2 (br_f (by decide) (xs_wl h1 (br_t rfl (br_f c0 (br_f a1 (br_f a2 (br_f b1 ⟨vj, br_f y2 ?_⟩)))))))
            unfold wpY_loc
            exact br_t h1 (br_t rfl ⟨rfl, J⟩)
          · refine xs_wi b1 w2 (br_f (by decide) (xs_wh h1 h3 (br_t rfl (br_f c0 (br_f a1 (br_f a2 (br_f b1 ⟨vj, br_f y2 ?_⟩)))))))
            unfold wpY_loc
            exact br_f h1 (br_t h3 (br_t rfl ⟨rfl, J⟩))
        · have w2 : nI (L j) < nI p := nI_lt (by omega) hp
          exact xs_wh b1 w2 (br_t rfl (br_f c0 (br_f a1 (br_f a2 (br_f b1 ⟨vj, br_t (by rw [hl]; exact w2) ⟨rfl, J⟩⟩)))))
    · exact xs_wl h1 (br_t rfl (br_f c0 (br_t h1 ⟨rfl, J⟩)))
    · exact xs_wh h1 h3 (br_t rfl (br_f c0 (br_f h1 (br_t h3 ⟨rfl, J⟩))))
theorem ni_cl (x : Int32) (lo hi : Nat) (h : lo ≤ hi) (hh : hi < 2 ^ 30) : ∃ c, lo ≤ c ∧ c ≤ hi ∧ ∀ P : Int32 → Prop, P (nI c) → ((nI lo ≤ x → ((x ≤ nI hi → P x) ∧ (¬ x ≤ nI hi → P (nI hi)))) ∧ (¬ nI lo ≤ x → P (nI lo))) := by
  by_cases a : nI lo ≤ x
  · have a0 : ¬ x < 0 := fun z => by
      have z2 := Int32.lt_of_le_of_lt a z
      exact nI_pos (by omega) z2
    obtain ⟨j, hj, rfl⟩ := nI_of a0
    have a1 := (nI_leI (by omega) hj).mp a
    by_cases b : j ≤ hi
    · exact ⟨j, a1, b, fun P p => br_t a (br_t (nI_le b (by omega)) p)⟩
    · exact ⟨hi, h, Nat.le_refl _, fun P p => br_t a (br_f (nI_ge (by omega) hj) p)⟩
  · exact ⟨lo, Nat.le_refl _, h, fun P p => br_f a p⟩
theorem i_vc_run {k : Nat} {u : SX} {v : SY} (I : i_Rel k u v) (hk : k + 5 ≤ 2563) (v1 : Int32) : wpX_run (fun r u' => wpY_run (fun r' v' => r' = r ∧ i_Rel (k + 5) u' v') v v1) u v1 := by
  have J : i_Rel (k + 5) u v := i_up I
  obtain ⟨C, H, D, O, F, U, s, L, cs, ec, ep, ms, yec, yep, ych, fk, pn, pi, ln, pg, so, ed, he, fr, ou, rc, sn, si, sf, tn, ti, tf, rfl, rfl, hI⟩ := I
  unfold wpX_run
  by_cases c0 : cs = 30
  · refine br_t c0 ?_
    unfold wpY_run
    exact br_t c0 ⟨rfl, J⟩
  · obtain ⟨hcs, hF, hS⟩ := hI.2.2.2.2.2.1.resolve_left c0
    obtain ⟨N, _, hN, hP⟩ := ni_cl v1 0 10000 (by omega) (by omega)
    obtain ⟨ms', O', F', U', he', fr', ou', hF', hM', hX, hY⟩ := rn_both (cc := nI C) (sel := nI s) (cs := cs) (ec := ec) (ep := ep) (fk := fk) (pn := pn) (pi := pi) (so := so) (ed := ed) (rc := rc) (sn := sn) (si := si) (sf := sf) (tn := tn) (ti := ti) (tf := tf) hI.1.2.2.2.2.1 hI.1.2.2.1 hI.1.2.1 hI.2.2.1 hI.2.2.2.1 hN N 0 (by omega) ms O F U he fr ou hF hI.2.2.2.2.1
    refine br_f c0 ?_
    unfold wpX_clamp
    refine hP (fun r_2 => ∃ n23 : Nat, wX_run_23 _ r_2 n23 0 (nI C) (nI H) (nI D) (nI s) cs ec ep ms (nI O) (nI F) (nI U) fk pn pi ln pg so ed he fr ou) ⟨N + 1, hX _ ?_⟩
    unfold wpY_run
    refine br_f c0 ?_
    refine hP (fun r_2 => ∃ n37 : Nat, wY_run_37 _ r_2 n37 0 (nI C) (nI H) (nI D) (nI s) yec yep cs ms (nI O) (nI U) (nI F) ych fk pn pi ln pg rc sn si sf tn ti tf he ou fr) ⟨N + 1, hY yec yep ych _ ⟨rfl, ?_⟩⟩
    exact ni_mk ⟨hI.1, hI.2.1, hI.2.2.1, hI.2.2.2.1, hM', Or.inr ⟨hcs, hF', hS⟩, hI.2.2.2.2.2.2⟩
theorem i_vc_check {k : Nat} {u : SX} {v : SY} (I : i_Rel k u v) (hk : k + 5 ≤ 2563) : wpX_check (fun r u' => wpY_check (fun r' v' => r' = r ∧ i_Rel (k + 5) u' v') v) u := by
  obtain ⟨C, H, D, O, F, U, s, L, cs, ec, ep, ms, yec, yep, ych, fk, pn, pi, ln, pg, so, ed, he, fr, ou, rc, sn, si, sf, tn, ti, tf, rfl, rfl, hI⟩ := I
  obtain ⟨so4, ed4, rc4, sn4, si4, sf4, tn4, ti4, tf4, e, pl, hS4, _, hepl, hX1, hX2, hY⟩ := ck_both (cc := nI C) (hc := nI H) (md := nI D) (sel := nI s) (cs := cs) (ec := ec) (ep := ep) (ms := ms) (oc := nI O) (fc := nI F) (uc := nI U) (he := he) (fr := fr) (ou := ou) hI.1.2.1 hI.2.1 hI.2.2.1 hI.2.2.2.1 4 0 (by omega) so ed (na_fi rc 0 132 0) sn si sf tn ti tf (fun b hb => absurd hb (by omega)) (fun j h1 h2 => na_fiI (by omega))
  have R : ∀ (z0 yec' ych' : Int32), (z0 = 31 ∨ z0 = 32) → i_Rel (k + 5) ((nI C), (nI H), (nI D), (nI s), z0, e, pl, 21, 0, (nI (0 + 1)), 0, fk, pn, pi, ln, pg, so4, ed4, he, (nw_push fr 0 0 (-1) (-1) (-1)), ou) ((nI C), (nI H), (nI D), (nI s), yec', pl, z0, 21, 0, 0, 1, ych', fk, pn, pi, ln, pg, rc4, sn4, si4, sf4, tn4, ti4, tf4, he, ou, (upd (upd (upd (upd (na_fi fr 0 8 (-1)) 8 0) 9 0) 10 (-1)) 11 (-1))) := by
    intro z0 yec' ych' hz0
    rw [← nw_main]
    exact ni_mk (O := 0) (F := 1) (U := 0) ⟨hI.1, hI.2.1, hI.2.2.1, hI.2.2.2.1, nv_Mstart hI.1.2.2.2.1, Or.inr ⟨hz0, by omega, hS4⟩, fun _ => rfl⟩
  have ke : (if (0 : Int32) = 0 then e else 0) = e := if_pos rfl
  have kp : (if (0 : Int32) = 0 then (if e = 0 then (-1) else pl) else (-1)) = pl := by
    rw [if_pos rfl]
    by_cases z : e = 0
    · rw [if_pos z, hepl z]
    · rw [if_neg z]
  have YW : ∀ (z0 : Int32), ((e = 0 ∧ z0 = 31) ∨ (¬ e = 0 ∧ z0 = 32)) → wpY_check (fun r' v' => r' = e ∧ i_Rel (k + 5) ((nI C), (nI H), (nI D), (nI s), z0, e, pl, 21, 0, (nI (0 + 1)), 0, fk, pn, pi, ln, pg, so4, ed4, he, (nw_push fr 0 0 (-1) (-1) (-1)), ou) v') ((nI C), (nI H), (nI D), (nI s), yec, yep, cs, ms, (nI O), (nI U), (nI F), ych, fk, pn, pi, ln, pg, rc, sn, si, sf, tn, ti, tf, he, ou, fr) := by
    intro z0 hz0
    refine yc_clear ⟨5, hY yec (-1) ych 0 _ (fun yec' ych' => ?_)⟩
    rw [ke, kp, wY_check_31]
    refine br_t (by decide) ?_
    rcases hz0 with ⟨z1, rfl⟩ | ⟨z1, rfl⟩
    · exact br_t z1 (yc_88 ⟨rfl, R 31 yec' ych' (Or.inl rfl)⟩)
    · exact br_f z1 (yc_88 ⟨rfl, R 32 yec' ych' (Or.inr rfl)⟩)
  unfold wpX_check
  refine ⟨5, hX1 _ ?_⟩
  rw [wX_check_2]
  refine br_t (by decide) ?_
  unfold wpX_report
  refine ⟨5, hX2 _ ?_⟩
  refine br_c (fun z => ?_) (fun z => ?_)
  · unfold wX_check_42 wpX_startMachine wpX_clearMachine
    exact xm_push (F := 0) (by omega) (YW 31 (Or.inl ⟨z, rfl⟩))
  · unfold wX_check_42 wpX_startMachine wpX_clearMachine
    exact xm_push (F := 0) (by omega) (YW 32 (Or.inr ⟨z, rfl⟩))
end
section
/-! emit -/
def nx_fit (x lo m : Int32) : Prop := m = -1 ∨ (¬ x < lo ∧ ¬ m < x)
theorem nx_lo {x lo m : Int32} (h : nx_fit x lo m) (hm : ¬ m = -1) : ¬ x < lo := (h.resolve_left hm).1
theorem nx_hi {x lo m : Int32} (h : nx_fit x lo m) (hm : ¬ m = -1) : ¬ m < x := (h.resolve_left hm).2
theorem nx_of {x : Int32} {n : Nat} (hn : n < 2 ^ 31) (h : nx_fit x 0 (nI n)) : ∃ j, j ≤ n ∧ x = nI j := by
  obtain ⟨j, hj, rfl⟩ := nI_of (nx_lo h (nc_m1 hn))
  have z := nx_hi h (nc_m1 hn)
  refine ⟨j, ?_, rfl⟩
  by_cases e : j ≤ n
  · exact e
  · exact absurd (nI_lt (by omega) hj) z
theorem xe_fit {post : Int32 → Prop} {x lo m : Int32} (h1 : nx_fit x lo m → post 1) (h0 : ¬ nx_fit x lo m → post 0) : wpX_operandFits post x lo m := by
  unfold wpX_operandFits wpX_within
  by_cases e : m = -1
  · exact br_t e (h1 (Or.inl e))
  · refine br_f e ?_
    by_cases a : x < lo
    · exact br_t a (br_t rfl (h0 (fun z => nx_lo z e a)))
    · by_cases b : m < x
      · exact br_f a (br_t b (br_t rfl (h0 (fun z => nx_hi z e b))))
      · exact br_f a (br_f b (br_f (by decide) (h1 (Or.inr ⟨a, b⟩))))
section
variable {cc hc md sel cs ec ep ms oc fc uc : Int32} {fk pn pi ln pg so ed he fr ou : Nat → Int32} {s l C n : Nat} {a b c mA mB mC lB vA vB vC : Int32}
theorem xe_58 {o : Int32} (hs : s < 4) (hl : ln s = nI l) (hl2 : l < 32) (eA : vA = if mA = -1 then 0 else a) (eB : vB = if mB = -1 then 0 else b) (eC : vC = if mC = -1 then 0 else c) {post : Int32 → SX → Prop} (hok : nx_fit a 0 mA ∧ nx_fit b lB mB ∧ nx_fit c 0 mC → post 1 (cc, hc, md, (nI s), 30, ec, ep, 20, 0, 0, 0, fk, pn, pi, (upd ln s (nI (l + 1))), (upd (upd (upd (upd pg ((s * 32 + l) * 4) o) (((s * 32 + l) * 4) + 1) vA) (((s * 32 + l) * 4) + 2) vB) (((s * 32 + l) * 4) + 3) vC), so, ed, he, fr, ou)) (href : ¬ (nx_fit a 0 mA ∧ nx_fit b lB mB ∧ nx_fit c 0 mC) → post 0 (cc, hc, md, (nI s), cs, ec, ep, ms, oc, fc, uc, fk, pn, pi, ln, pg, so, ed, he, fr, ou)) : wX_emit_58 post o a b c mA mB mC lB cc hc md (nI s) cs ec ep ms oc fc uc fk pn pi ln pg so ed he fr ou := by
  have cs1 : (nI s).toNatClampNeg = s := nI_clamp (by omega)
  have vs : vp_in (nI s) 4 := vp_in_nI hs (by decide)
  have c0 : (nI ((s * 32 + l) * 4)).toNatClampNeg = ((s * 32 + l) * 4) := nI_clamp (by omega)
  have c1 : (nI (((s * 32 + l) * 4) + 1)).toNatClampNeg = ((s * 32 + l) * 4) + 1 := nI_clamp (by omega)
  have c2 : (nI (((s * 32 + l) * 4) + 2)).toNatClampNeg = ((s * 32 + l) * 4) + 2 := nI_clamp (by omega)
  have c3 : (nI (((s * 32 + l) * 4) + 3)).toNatClampNeg = ((s * 32 + l) * 4) + 3 := nI_clamp (by omega)
  unfold wX_emit_58
  refine xe_fit (fun fA => br_f (by decide) (xe_fit (fun fB => br_f (by decide) (xe_fit (fun fC => br_f (by decide) ⟨vs, ?_⟩) (fun z => br_t rfl (href (fun y => z y.2.2))))) (fun z => br_t rfl (href (fun y => z y.2.1))))) (fun z => br_t rfl (href (fun y => z y.1)))
  have k := hok ⟨fA, fB, fC⟩
  have E180 : ∀ v, v = vC → wX_emit_180 post v (nI ((s * 32 + l) * 4) + 3) cc hc md (nI s) cs ec ep ms oc fc uc fk pn pi ln (upd (upd (upd pg ((s * 32 + l) * 4) o) (((s * 32 + l) * 4) + 1) vA) (((s * 32 + l) * 4) + 2) vB) so ed he fr ou := by
    rintro v rfl
    unfold wX_emit_180 wpX_resetAfterEdit wpX_clearMachine
    rw [nn_a3, c3, cs1, hl, nn_a1]
    exact ⟨vp_in_nI (by omega) (by decide), nm_e ⟨vs, vs, nm_e k⟩⟩
  have E159 : ∀ v, v = vB → wX_emit_159 post c mC (nI ((s * 32 + l) * 4)) v (nI ((s * 32 + l) * 4) + 2) cc hc md (nI s) cs ec ep ms oc fc uc fk pn pi ln (upd (upd pg ((s * 32 + l) * 4) o) (((s * 32 + l) * 4) + 1) vA) so ed he fr ou := by
    rintro v rfl
    unfold wX_emit_159
    refine ⟨pk_in _ 512 (by omega) (nn_a2 _) (by decide), nm_r (by rw [nn_a2, c2]) (br_c (fun e => E180 _ ?_) (fun e => E180 _ ?_))⟩
    · rw [eC, if_pos e]
    · rw [eC, if_neg e]
  have E139 : ∀ v, v = vA → wX_emit_139 post b c mB mC (nI ((s * 32 + l) * 4)) v (nI ((s * 32 + l) * 4) + 1) cc hc md (nI s) cs ec ep ms oc fc uc fk pn pi ln (upd pg ((s * 32 + l) * 4) o) so ed he fr ou := by
    rintro v rfl
    unfold wX_emit_139
    refine ⟨pk_in _ 512 (by omega) (nn_a1 _) (by decide), nm_r (by rw [nn_a1, c1]) (br_c (fun e => E159 _ ?_) (fun e => E159 _ ?_))⟩
    · rw [eB, if_pos e]
    · rw [eB, if_neg e]
  unfold wpX_codeAt
  rw [cs1, hl, nn_ct]
  refine ⟨vp_in_nI (by omega) (by decide), nm_r (by rw [c0]) (br_c (fun e => E139 _ ?_) (fun e => E139 _ ?_))⟩
  · rw [eA, if_pos e]
  · rw [eA, if_neg e]
theorem xe_op (hn : n < 10) (hs : s < 4) (hl : ln s = nI l) (hlC : l < C) (hC : C ≤ 32) (eA : vA = if mA = -1 then 0 else a) (eB : vB = if mB = -1 then 0 else b) (eC : vC = if mC = -1 then 0 else c) (hA : ∀ P : Int32 → Prop, P mA → wpX_mostOfA P ((nI C), hc, md, (nI s), cs, ec, ep, ms, oc, fc, uc, fk, pn, pi, ln, pg, so, ed, he, fr, ou) (nI n)) (hB : ∀ P : Int32 → Prop, P mB → wpX_mostOfB P ((nI C), hc, md, (nI s), cs, ec, ep, ms, oc, fc, uc, fk, pn, pi, ln, pg, so, ed, he, fr, ou) (nI n)) (hCC : ∀ P : Int32 → Prop, P mC → wpX_mostOfC P (nI n)) (hLB : lB = if n = 2 then 1 else 0) {post : Int32 → SX → Prop} (hok : nx_fit a 0 mA ∧ nx_fit b lB mB ∧ nx_fit c 0 mC → post 1 ((nI C), hc, md, (nI s), 30, ec, ep, 20, 0, 0, 0, fk, pn, pi, (upd ln s (nI (l + 1))), (upd (upd (upd (upd pg ((s * 32 + l) * 4) (nI n)) (((s * 32 + l) * 4) + 1) vA) (((s * 32 + l) * 4) + 2) vB) (((s * 32 + l) * 4) + 3) vC), so, ed, he, fr, ou)) (href : ¬ (nx_fit a 0 mA ∧ nx_fit b lB mB ∧ nx_fit c 0 mC) → post 0 ((nI C), hc, md, (nI s), cs, ec, ep, ms, oc, fc, uc, fk, pn, pi, ln, pg, so, ed, he, fr, ou)) : wpX_emit post ((nI C), hc, md, (nI s), cs, ec, ep, ms, oc, fc, uc, fk, pn, pi, ln, pg, so, ed, he, fr, ou) (nI n) a b c := by
  have cs1 : (nI s).toNatClampNeg = s := nI_clamp (by omega)
  have vs : vp_in (nI s) 4 := vp_in_nI hs (by decide)
  have k := xe_58 (o := nI n) hs hl (by omega) eA eB eC hok href
  unfold wpX_emit
  refine xs_wi (nI_pos (by omega)) (nn_n2 (n := 9) (by omega) (by decide)) (br_f (by decide) ⟨vs, ?_⟩)
  rw [cs1, hl]
  refine br_t (nI_lt hlC (by omega)) (hA _ (hB _ (hCC _ (br_c (fun e => ?_) (fun e => ?_)))))
  · rw [if_pos ((nl_eq2 (by omega)).mp e)] at hLB
    subst hLB
    exact k
  · rw [if_neg (fun z => e ((nl_eq2 (by omega)).mpr z))] at hLB
    subst hLB
    exact k
end
section
variable {cc hc md sel yec yep cs ms oc uc fc ych : Int32} {fk pn pi ln pg rc sn si sf tn ti tf he ou fr : Nat → Int32} {s l C n : Nat} {a b c : Int32}
theorem yl_loc {u : SY} {post : Int32 → Prop} {x : Int32} (h1 : nx_fit x 0 7 → post 1) (h0 : ¬ nx_fit x 0 7 → post 0) : wpY_loc post u x := by
  unfold wpY_loc
  by_cases a1 : x < 0
  · exact br_t a1 (h0 (fun z => nx_lo z (by decide) a1))
  · by_cases a2 : 7 < x
    · exact br_f a1 (br_t a2 (h0 (fun z => nx_hi z (by decide) a2)))
    · exact br_f a1 (br_f a2 (h1 (Or.inr ⟨a1, a2⟩)))
theorem ye_330 {o vA vB vC z : Int32} (hs : s < 4) (hl : ln s = nI l) (hl2 : l < 32) {post : Int32 → SY → Prop} (h1 : ¬ z = 0 → post 1 (cc, hc, md, (nI s), yec, yep, 30, 20, 0, 0, 0, ych, fk, pn, pi, (upd ln s (nI (l + 1))), (upd (upd (upd (upd pg ((s * 32 + l) * 4) o) (((s * 32 + l) * 4) + 1) vA) (((s * 32 + l) * 4) + 2) vB) (((s * 32 + l) * 4) + 3) vC), rc, sn, si, sf, tn, ti, tf, he, ou, fr)) (h0 : z = 0 → post 0 (cc, hc, md, (nI s), yec, yep, cs, ms, oc, uc, fc, ych, fk, pn, pi, ln, pg, rc, sn, si, sf, tn, ti, tf, he, ou, fr)) : wY_emit_330 post o vA vB vC z cc hc md (nI s) yec yep cs ms oc uc fc ych fk pn pi ln pg rc sn si sf tn ti tf he ou fr := by
  have cs1 : (nI s).toNatClampNeg = s := nI_clamp (by omega)
  have vs : vp_in (nI s) 4 := vp_in_nI hs (by decide)
  unfold wY_emit_330 wpY_edit
  refine br_c h0 (fun e => ⟨vs, ?_⟩)
  rw [cs1, hl]
  refine nm_r (nn_ct s l) ?_
  rw [nn_a1 ((s * 32 + l) * 4), nn_a2, nn_a3, nI_clamp (n := ((s * 32 + l) * 4)) (by omega), nI_clamp (n := ((s * 32 + l) * 4) + 1) (by omega), nI_clamp (n := ((s * 32 + l) * 4) + 2) (by omega), nI_clamp (n := ((s * 32 + l) * 4) + 3) (by omega), nn_a1 l]
  exact ⟨vp_in_nI (by omega) (by decide), nm_e ⟨vp_in_nI (by omega) (by decide), nm_e ⟨vp_in_nI (by omega) (by decide), nm_e ⟨vp_in_nI (by omega) (by decide), nm_e ⟨vs, vs, nm_e (h1 e)⟩⟩⟩⟩⟩
theorem ye_0 (hs : s < 4) (hl : ln s = nI l) (hlC : l < C) (hC : C ≤ 32) {post : Int32 → SY → Prop} (hok : (nx_fit a 0 7 ∧ nx_fit b 0 (-1) ∧ nx_fit c 0 (-1)) → post 1 ((nI C), hc, md, (nI s), yec, yep, 30, 20, 0, 0, 0, ych, fk, pn, pi, (upd ln s (nI (l + 1))), (upd (upd (upd (upd pg ((s * 32 + l) * 4) (nI 0)) (((s * 32 + l) * 4) + 1) a) (((s * 32 + l) * 4) + 2) 0) (((s * 32 + l) * 4) + 3) 0), rc, sn, si, sf, tn, ti, tf, he, ou, fr)) (href : ¬ (nx_fit a 0 7 ∧ nx_fit b 0 (-1) ∧ nx_fit c 0 (-1)) → post 0 ((nI C), hc, md, (nI s), yec, yep, cs, ms, oc, uc, fc, ych, fk, pn, pi, ln, pg, rc, sn, si, sf, tn, ti, tf, he, ou, fr)) : wpY_emit post ((nI C), hc, md, (nI s), yec, yep, cs, ms, oc, uc, fc, ych, fk, pn, pi, ln, pg, rc, sn, si, sf, tn, ti, tf, he, ou, fr) (nI 0) a b c := by
  have cs1 : (nI s).toNatClampNeg = s := nI_clamp (by omega)
  have vs : vp_in (nI s) 4 := vp_in_nI hs (by decide)
  have Ac : (nx_fit a 0 7 ∧ nx_fit b 0 (-1) ∧ nx_fit c 0 (-1)) → wY_emit_330 post (nI 0) a 0 0 1 (nI C) hc md (nI s) yec yep cs ms oc uc fc ych fk pn pi ln pg rc sn si sf tn ti tf he ou fr := fun z => ye_330 hs hl (by omega) (fun _ => hok z) (fun e => absurd e (by decide))
  have Re : ¬ (nx_fit a 0 7 ∧ nx_fit b 0 (-1) ∧ nx_fit c 0 (-1)) → wY_emit_330 post (nI 0) a 0 0 0 (nI C) hc md (nI s) yec yep cs ms oc uc fc ych fk pn pi ln pg rc sn si sf tn ti tf he ou fr := fun z => ye_330 hs hl (by omega) (fun e => absurd rfl e) (fun _ => href z)
  unfold wpY_emit
  refine br_f (by decide) (br_f (by decide) ⟨vs, br_t (by rw [cs1, hl]; exact nI_lt hlC (by omega)) ?_⟩)
  refine br_t (by decide) ?_
  unfold wY_emit_50
  exact yl_loc (fun fa => Ac ⟨fa, Or.inl rfl, Or.inl rfl⟩) (fun fa => Re (fun z => fa z.1))
theorem ye_1 (hs : s < 4) (hl : ln s = nI l) (hlC : l < C) (hC : C ≤ 32) {post : Int32 → SY → Prop} (hok : (nx_fit a 0 7 ∧ nx_fit b 0 7 ∧ nx_fit c 0 (-1)) → post 1 ((nI C), hc, md, (nI s), yec, yep, 30, 20, 0, 0, 0, ych, fk, pn, pi, (upd ln s (nI (l + 1))), (upd (upd (upd (upd pg ((s * 32 + l) * 4) (nI 1)) (((s * 32 + l) * 4) + 1) a) (((s * 32 + l) * 4) + 2) b) (((s * 32 + l) * 4) + 3) 0), rc, sn, si, sf, tn, ti, tf, he, ou, fr)) (href : ¬ (nx_fit a 0 7 ∧ nx_fit b 0 7 ∧ nx_fit c 0 (-1)) → post 0 ((nI C), hc, md, (nI s), yec, yep, cs, ms, oc, uc, fc, ych, fk, pn, pi, ln, pg, rc, sn, si, sf, tn, ti, tf, he, ou, fr)) : wpY_emit post ((nI C), hc, md, (nI s), yec, yep, cs, ms, oc, uc, fc, ych, fk, pn, pi, ln, pg, rc, sn, si, sf, tn, ti, tf, he, ou, fr) (nI 1) a b c := by
  have cs1 : (nI s).toNatClampNeg = s := nI_clamp (by omega)
  have vs : vp_in (nI s) 4 := vp_in_nI hs (by decide)
  have Ac : (nx_fit a 0 7 ∧ nx_fit b 0 7 ∧ nx_fit c 0 (-1)) → wY_emit_330 post (nI 1) a b 0 1 (nI C) hc md (nI s) yec yep cs ms oc uc fc ych fk pn pi ln pg rc sn si sf tn ti tf he ou fr := fun z => ye_330 hs hl (by omega) (fun _ => hok z) (fun e => absurd e (by decide))
  have Re : ¬ (nx_fit a 0 7 ∧ nx_fit b 0 7 ∧ nx_fit c 0 (-1)) → wY_emit_330 post (nI 1) a b 0 0 (nI C) hc md (nI s) yec yep cs ms oc uc fc ych fk pn pi ln pg rc sn si sf tn ti tf he ou fr := fun z => ye_330 hs hl (by omega) (fun e => absurd rfl e) (fun _ => href z)
  unfold wpY_emit
  refine br_f (by decide) (br_f (by decide) ⟨vs, br_t (by rw [cs1, hl]; exact nI_lt hlC (by omega)) ?_⟩)
  refine br_f (by decide) (br_f (by decide) (br_t (by decide) ?_))
  exact yl_loc (fun fa => br_f (by decide) (yl_loc (fun fb => br_f (by decide) (Ac ⟨fa, fb, Or.inl rfl⟩)) (fun fb => br_t rfl (Re (fun z => fb z.2.1))))) (fun fa => br_t rfl (Re (fun z => fa z.1)))
theorem ye_2 (hs : s < 4) (hl : ln s = nI l) (hlC : l < C) (hC : C ≤ 32) {post : Int32 → SY → Prop} (hok : (nx_fit a 0 7 ∧ nx_fit b 1 3 ∧ nx_fit c 0 7) → post 1 ((nI C), hc, md, (nI s), yec, yep, 30, 20, 0, 0, 0, ych, fk, pn, pi, (upd ln s (nI (l + 1))), (upd (upd (upd (upd pg ((s * 32 + l) * 4) (nI 2)) (((s * 32 + l) * 4) + 1) a) (((s * 32 + l) * 4) + 2) b) (((s * 32 + l) * 4) + 3) c), rc, sn, si, sf, tn, ti, tf, he, ou, fr)) (href : ¬ (nx_fit a 0 7 ∧ nx_fit b 1 3 ∧ nx_fit c 0 7) → post 0 ((nI C), hc, md, (nI s), yec, yep, cs, ms, oc, uc, fc, ych, fk, pn, pi, ln, pg, rc, sn, si, sf, tn, ti, tf, he, ou, fr)) : wpY_emit post ((nI C), hc, md, (nI s), yec, yep, cs, ms, oc, uc, fc, ych, fk, pn, pi, ln, pg, rc, sn, si, sf, tn, ti, tf, he, ou, fr) (nI 2) a b c := by
  have cs1 : (nI s).toNatClampNeg = s := nI_clamp (by omega)
  have vs : vp_in (nI s) 4 := vp_in_nI hs (by decide)
  have Ac : (nx_fit a 0 7 ∧ nx_fit b 1 3 ∧ nx_fit c 0 7) → wY_emit_330 post (nI 2) a b c 1 (nI C) hc md (nI s) yec yep cs ms oc uc fc ych fk pn pi ln pg rc sn si sf tn ti tf he ou fr := fun z => ye_330 hs hl (by omega) (fun _ => hok z) (fun e => absurd e (by decide))
  have Re : ¬ (nx_fit a 0 7 ∧ nx_fit b 1 3 ∧ nx_fit c 0 7) → wY_emit_330 post (nI 2) a b c 0 (nI C) hc md (nI s) yec yep cs ms oc uc fc ych fk pn pi ln pg rc sn si sf tn ti tf he ou fr := fun z => ye_330 hs hl (by omega) (fun e => absurd rfl e) (fun _ => href z)
  unfold wpY_emit
  refine br_f (by decide) (br_f (by decide) ⟨vs, br_t (by rw [cs1, hl]; exact nI_lt hlC (by omega)) ?_⟩)
  refine br_f (by decide) (br_f (by decide) (br_f (by decide) (br_t (by decide) ?_)))
  exact yl_loc (fun fa => br_f (by decide) (br_c (fun e => Re (fun z => nx_lo z.2.1 (by decide) e)) (fun e1 => br_c (fun e => Re (fun z => nx_hi z.2.1 (by decide) e)) (fun e2 => yl_loc (fun fc => br_f (by decide) (Ac ⟨fa, Or.inr ⟨e1, e2⟩, fc⟩)) (fun fc => br_t rfl (Re (fun z => fc z.2.2))))))) (fun fa => br_t rfl (Re (fun z => fa z.1)))
theorem ye_3 (hs : s < 4) (hl : ln s = nI l) (hlC : l < C) (hC : C ≤ 32) {post : Int32 → SY → Prop} (hok : (nx_fit a 0 7 ∧ nx_fit b 0 7 ∧ nx_fit c 0 3) → post 1 ((nI C), hc, md, (nI s), yec, yep, 30, 20, 0, 0, 0, ych, fk, pn, pi, (upd ln s (nI (l + 1))), (upd (upd (upd (upd pg ((s * 32 + l) * 4) (nI 3)) (((s * 32 + l) * 4) + 1) a) (((s * 32 + l) * 4) + 2) b) (((s * 32 + l) * 4) + 3) c), rc, sn, si, sf, tn, ti, tf, he, ou, fr)) (href : ¬ (nx_fit a 0 7 ∧ nx_fit b 0 7 ∧ nx_fit c 0 3) → post 0 ((nI C), hc, md, (nI s), yec, yep, cs, ms, oc, uc, fc, ych, fk, pn, pi, ln, pg, rc, sn, si, sf, tn, ti, tf, he, ou, fr)) : wpY_emit post ((nI C), hc, md, (nI s), yec, yep, cs, ms, oc, uc, fc, ych, fk, pn, pi, ln, pg, rc, sn, si, sf, tn, ti, tf, he, ou, fr) (nI 3) a b c := by
  have cs1 : (nI s).toNatClampNeg = s := nI_clamp (by omega)
  have vs : vp_in (nI s) 4 := vp_in_nI hs (by decide)
  have Ac : (nx_fit a 0 7 ∧ nx_fit b 0 7 ∧ nx_fit c 0 3) → wY_emit_330 post (nI 3) a b c 1 (nI C) hc md (nI s) yec yep cs ms oc uc fc ych fk pn pi ln pg rc sn si sf tn ti tf he ou fr := fun z => ye_330 hs hl (by omega) (fun _ => hok z) (fun e => absurd e (by decide))
  have Re : ¬ (nx_fit a 0 7 ∧ nx_fit b 0 7 ∧ nx_fit c 0 3) → wY_emit_330 post (nI 3) a b c 0 (nI C) hc md (nI s) yec yep cs ms oc uc fc ych fk pn pi ln pg rc sn si sf tn ti tf he ou fr := fun z => ye_330 hs hl (by omega) (fun e => absurd rfl e) (fun _ => href z)
  unfold wpY_emit
  refine br_f (by decide) (br_f (by decide) ⟨vs, br_t (by rw [cs1, hl]; exact nI_lt hlC (by omega)) ?_⟩)
  refine br_f (by decide) (br_f (by decide) (br_f (by decide) (br_f (by decide) (br_t (by decide) ?_))))
  exact yl_loc (fun fa => br_f (by decide) (yl_loc (fun fb => br_f (by decide) (br_c (fun e => Re (fun z => nx_lo z.2.2 (by decide) e)) (fun e1 => br_c (fun e => Re (fun z => nx_hi z.2.2 (by decide) e)) (fun e2 => Ac ⟨fa, fb, Or.inr ⟨e1, e2⟩⟩)))) (fun fb => br_t rfl (Re (fun z => fb z.2.1))))) (fun fa => br_t rfl (Re (fun z => fa z.1)))
theorem ye_4 (hs : s < 4) (hl : ln s = nI l) (hlC : l < C) (hC : C ≤ 32) {post : Int32 → SY → Prop} (hok : (nx_fit a 0 7 ∧ nx_fit b 0 3 ∧ nx_fit c 0 7) → post 1 ((nI C), hc, md, (nI s), yec, yep, 30, 20, 0, 0, 0, ych, fk, pn, pi, (upd ln s (nI (l + 1))), (upd (upd (upd (upd pg ((s * 32 + l) * 4) (nI 4)) (((s * 32 + l) * 4) + 1) a) (((s * 32 + l) * 4) + 2) b) (((s * 32 + l) * 4) + 3) c), rc, sn, si, sf, tn, ti, tf, he, ou, fr)) (href : ¬ (nx_fit a 0 7 ∧ nx_fit b 0 3 ∧ nx_fit c 0 7) → post 0 ((nI C), hc, md, (nI s), yec, yep, cs, ms, oc, uc, fc, ych, fk, pn, pi, ln, pg, rc, sn, si, sf, tn, ti, tf, he, ou, fr)) : wpY_emit post ((nI C), hc, md, (nI s), yec, yep, cs, ms, oc, uc, fc, ych, fk, pn, pi, ln, pg, rc, sn, si, sf, tn, ti, tf, he, ou, fr) (nI 4) a b c := by
  have cs1 : (nI s).toNatClampNeg = s := nI_clamp (by omega)
  have vs : vp_in (nI s) 4 := vp_in_nI hs (by decide)
  have Ac : (nx_fit a 0 7 ∧ nx_fit b 0 3 ∧ nx_fit c 0 7) → wY_emit_330 post (nI 4) a b c 1 (nI C) hc md (nI s) yec yep cs ms oc uc fc ych fk pn pi ln pg rc sn si sf tn ti tf he ou fr := fun z => ye_330 hs hl (by omega) (fun _ => hok z) (fun e => absurd e (by decide))
  have Re : ¬ (nx_fit a 0 7 ∧ nx_fit b 0 3 ∧ nx_fit c 0 7) → wY_emit_330 post (nI 4) a b c 0 (nI C) hc md (nI s) yec yep cs ms oc uc fc ych fk pn pi ln pg rc sn si sf tn ti tf he ou fr := fun z => ye_330 hs hl (by omega) (fun e => absurd rfl e) (fun _ => href z)
  unfold wpY_emit
  refine br_f (by decide) (br_f (by decide) ⟨vs, br_t (by rw [cs1, hl]; exact nI_lt hlC (by omega)) ?_⟩)
  refine br_f (by decide) (br_f (by decide) (br_f (by decide) (br_f (by decide) (br_f (by decide) (br_t (by decide) ?_)))))
  exact yl_loc (fun fa => br_f (by decide) (br_c (fun e => Re (fun z => nx_lo z.2.1 (by decide) e)) (fun e1 => br_c (fun e => Re (fun z => nx_hi z.2.1 (by decide) e)) (fun e2 => yl_loc (fun fc => br_f (by decide) (Ac ⟨fa, Or.inr ⟨e1, e2⟩, fc⟩)) (fun fc => br_t rfl (Re (fun z => fc z.2.2))))))) (fun fa => br_t rfl (Re (fun z => fa z.1)))
theorem ye_5 (hs : s < 4) (hl : ln s = nI l) (hlC : l < C) (hC : C ≤ 32) {post : Int32 → SY → Prop} (hok : (nx_fit a 0 7 ∧ nx_fit b 0 (nI C) ∧ nx_fit c 0 (-1)) → post 1 ((nI C), hc, md, (nI s), yec, yep, 30, 20, 0, 0, 0, ych, fk, pn, pi, (upd ln s (nI (l + 1))), (upd (upd (upd (upd pg ((s * 32 + l) * 4) (nI 5)) (((s * 32 + l) * 4) + 1) a) (((s * 32 + l) * 4) + 2) b) (((s * 32 + l) * 4) + 3) 0), rc, sn, si, sf, tn, ti, tf, he, ou, fr)) (href : ¬ (nx_fit a 0 7 ∧ nx_fit b 0 (nI C) ∧ nx_fit c 0 (-1)) → post 0 ((nI C), hc, md, (nI s), yec, yep, cs, ms, oc, uc, fc, ych, fk, pn, pi, ln, pg, rc, sn, si, sf, tn, ti, tf, he, ou, fr)) : wpY_emit post ((nI C), hc, md, (nI s), yec, yep, cs, ms, oc, uc, fc, ych, fk, pn, pi, ln, pg, rc, sn, si, sf, tn, ti, tf, he, ou, fr) (nI 5) a b c := by
  have cs1 : (nI s).toNatClampNeg = s := nI_clamp (by omega)
  have vs : vp_in (nI s) 4 := vp_in_nI hs (by decide)
  have Ac : (nx_fit a 0 7 ∧ nx_fit b 0 (nI C) ∧ nx_fit c 0 (-1)) → wY_emit_330 post (nI 5) a b 0 1 (nI C) hc md (nI s) yec yep cs ms oc uc fc ych fk pn pi ln pg rc sn si sf tn ti tf he ou fr := fun z => ye_330 hs hl (by omega) (fun _ => hok z) (fun e => absurd e (by decide))
  have Re : ¬ (nx_fit a 0 7 ∧ nx_fit b 0 (nI C) ∧ nx_fit c 0 (-1)) → wY_emit_330 post (nI 5) a b 0 0 (nI C) hc md (nI s) yec yep cs ms oc uc fc ych fk pn pi ln pg rc sn si sf tn ti tf he ou fr := fun z => ye_330 hs hl (by omega) (fun e => absurd rfl e) (fun _ => href z)
  unfold wpY_emit
  refine br_f (by decide) (br_f (by decide) ⟨vs, br_t (by rw [cs1, hl]; exact nI_lt hlC (by omega)) ?_⟩)
  refine br_f (by decide) (br_f (by decide) (br_f (by decide) (br_f (by decide) (br_f (by decide) (br_f (by decide) (br_t (by decide) ?_))))))
  unfold wY_emit_266
  exact yl_loc (fun fa => br_f (by decide) (br_c (fun e => Re (fun z => nx_lo z.2.1 (nc_m1 (by omega)) e)) (fun e1 => br_c (fun e => Re (fun z => nx_hi z.2.1 (nc_m1 (by omega)) e)) (fun e2 => Ac ⟨fa, Or.inr ⟨e1, e2⟩, Or.inl rfl⟩)))) (fun fa => br_t rfl (Re (fun z => fa z.1)))
theorem ye_6 (hs : s < 4) (hl : ln s = nI l) (hlC : l < C) (hC : C ≤ 32) {post : Int32 → SY → Prop} (hok : (nx_fit a 0 7 ∧ nx_fit b 0 (nI C) ∧ nx_fit c 0 (-1)) → post 1 ((nI C), hc, md, (nI s), yec, yep, 30, 20, 0, 0, 0, ych, fk, pn, pi, (upd ln s (nI (l + 1))), (upd (upd (upd (upd pg ((s * 32 + l) * 4) (nI 6)) (((s * 32 + l) * 4) + 1) a) (((s * 32 + l) * 4) + 2) b) (((s * 32 + l) * 4) + 3) 0), rc, sn, si, sf, tn, ti, tf, he, ou, fr)) (href : ¬ (nx_fit a 0 7 ∧ nx_fit b 0 (nI C) ∧ nx_fit c 0 (-1)) → post 0 ((nI C), hc, md, (nI s), yec, yep, cs, ms, oc, uc, fc, ych, fk, pn, pi, ln, pg, rc, sn, si, sf, tn, ti, tf, he, ou, fr)) : wpY_emit post ((nI C), hc, md, (nI s), yec, yep, cs, ms, oc, uc, fc, ych, fk, pn, pi, ln, pg, rc, sn, si, sf, tn, ti, tf, he, ou, fr) (nI 6) a b c := by
  have cs1 : (nI s).toNatClampNeg = s := nI_clamp (by omega)
  have vs : vp_in (nI s) 4 := vp_in_nI hs (by decide)
  have Ac : (nx_fit a 0 7 ∧ nx_fit b 0 (nI C) ∧ nx_fit c 0 (-1)) → wY_emit_330 post (nI 6) a b 0 1 (nI C) hc md (nI s) yec yep cs ms oc uc fc ych fk pn pi ln pg rc sn si sf tn ti tf he ou fr := fun z => ye_330 hs hl (by omega) (fun _ => hok z) (fun e => absurd e (by decide))
  have Re : ¬ (nx_fit a 0 7 ∧ nx_fit b 0 (nI C) ∧ nx_fit c 0 (-1)) → wY_emit_330 post (nI 6) a b 0 0 (nI C) hc md (nI s) yec yep cs ms oc uc fc ych fk pn pi ln pg rc sn si sf tn ti tf he ou fr := fun z => ye_330 hs hl (by omega) (fun e => absurd rfl e) (fun _ => href z)
  unfold wpY_emit
  refine br_f (by decide) (br_f (by decide) ⟨vs, br_t (by rw [cs1, hl]; exact nI_lt hlC (by omega)) ?_⟩)
  refine br_f (by decide) (br_f (by decide) (br_f (by decide) (br_f (by decide) (br_f (by decide) (br_f (by decide) (br_f (by decide) (br_t (by decide) ?_)))))))
  unfold wY_emit_266
  exact yl_loc (fun fa => br_f (by decide) (br_c (fun e => Re (fun z => nx_lo z.2.1 (nc_m1 (by omega)) e)) (fun e1 => br_c (fun e => Re (fun z => nx_hi z.2.1 (nc_m1 (by omega)) e)) (fun e2 => Ac ⟨fa, Or.inr ⟨e1, e2⟩, Or.inl rfl⟩)))) (fun fa => br_t rfl (Re (fun z => fa z.1)))
theorem ye_7 (hs : s < 4) (hl : ln s = nI l) (hlC : l < C) (hC : C ≤ 32) {post : Int32 → SY → Prop} (hok : (nx_fit a 0 (nI C) ∧ nx_fit b 0 (-1) ∧ nx_fit c 0 (-1)) → post 1 ((nI C), hc, md, (nI s), yec, yep, 30, 20, 0, 0, 0, ych, fk, pn, pi, (upd ln s (nI (l + 1))), (upd (upd (upd (upd pg ((s * 32 + l) * 4) (nI 7)) (((s * 32 + l) * 4) + 1) a) (((s * 32 + l) * 4) + 2) 0) (((s * 32 + l) * 4) + 3) 0), rc, sn, si, sf, tn, ti, tf, he, ou, fr)) (href : ¬ (nx_fit a 0 (nI C) ∧ nx_fit b 0 (-1) ∧ nx_fit c 0 (-1)) → post 0 ((nI C), hc, md, (nI s), yec, yep, cs, ms, oc, uc, fc, ych, fk, pn, pi, ln, pg, rc, sn, si, sf, tn, ti, tf, he, ou, fr)) : wpY_emit post ((nI C), hc, md, (nI s), yec, yep, cs, ms, oc, uc, fc, ych, fk, pn, pi, ln, pg, rc, sn, si, sf, tn, ti, tf, he, ou, fr) (nI 7) a b c := by
  have cs1 : (nI s).toNatClampNeg = s := nI_clamp (by omega)
  have vs : vp_in (nI s) 4 := vp_in_nI hs (by decide)
  have Ac : (nx_fit a 0 (nI C) ∧ nx_fit b 0 (-1) ∧ nx_fit c 0 (-1)) → wY_emit_330 post (nI 7) a 0 0 1 (nI C) hc md (nI s) yec yep cs ms oc uc fc ych fk pn pi ln pg rc sn si sf tn ti tf he ou fr := fun z => ye_330 hs hl (by omega) (fun _ => hok z) (fun e => absurd e (by decide))
  have Re : ¬ (nx_fit a 0 (nI C) ∧ nx_fit b 0 (-1) ∧ nx_fit c 0 (-1)) → wY_emit_330 post (nI 7) a 0 0 0 (nI C) hc md (nI s) yec yep cs ms oc uc fc ych fk pn pi ln pg rc sn si sf tn ti tf he ou fr := fun z => ye_330 hs hl (by omega) (fun e => absurd rfl e) (fun _ => href z)
  unfold wpY_emit
  refine br_f (by decide) (br_f (by decide) ⟨vs, br_t (by rw [cs1, hl]; exact nI_lt hlC (by omega)) ?_⟩)
  refine br_f (by decide) (br_f (by decide) (br_f (by decide) (br_f (by decide) (br_f (by decide) (br_f (by decide) (br_f (by decide) (br_f (by decide) (br_t (by decide) ?_))))))))
  exact br_c (fun e => Re (fun z => nx_lo z.1 (nc_m1 (by omega)) e)) (fun e1 => br_c (fun e => Re (fun z => nx_hi z.1 (nc_m1 (by omega)) e)) (fun e2 => Ac ⟨Or.inr ⟨e1, e2⟩, Or.inl rfl, Or.inl rfl⟩))
theorem ye_8 (hs : s < 4) (hl : ln s = nI l) (hlC : l < C) (hC : C ≤ 32) {post : Int32 → SY → Prop} (hok : (nx_fit a 0 (-1) ∧ nx_fit b 0 (-1) ∧ nx_fit c 0 (-1)) → post 1 ((nI C), hc, md, (nI s), yec, yep, 30, 20, 0, 0, 0, ych, fk, pn, pi, (upd ln s (nI (l + 1))), (upd (upd (upd (upd pg ((s * 32 + l) * 4) (nI 8)) (((s * 32 + l) * 4) + 1) 0) (((s * 32 + l) * 4) + 2) 0) (((s * 32 + l) * 4) + 3) 0), rc, sn, si, sf, tn, ti, tf, he, ou, fr)) (href : ¬ (nx_fit a 0 (-1) ∧ nx_fit b 0 (-1) ∧ nx_fit c 0 (-1)) → post 0 ((nI C), hc, md, (nI s), yec, yep, cs, ms, oc, uc, fc, ych, fk, pn, pi, ln, pg, rc, sn, si, sf, tn, ti, tf, he, ou, fr)) : wpY_emit post ((nI C), hc, md, (nI s), yec, yep, cs, ms, oc, uc, fc, ych, fk, pn, pi, ln, pg, rc, sn, si, sf, tn, ti, tf, he, ou, fr) (nI 8) a b c := by
  have cs1 : (nI s).toNatClampNeg = s := nI_clamp (by omega)
  have vs : vp_in (nI s) 4 := vp_in_nI hs (by decide)
  have Ac : (nx_fit a 0 (-1) ∧ nx_fit b 0 (-1) ∧ nx_fit c 0 (-1)) → wY_emit_330 post (nI 8) 0 0 0 1 (nI C) hc md (nI s) yec yep cs ms oc uc fc ych fk pn pi ln pg rc sn si sf tn ti tf he ou fr := fun z => ye_330 hs hl (by omega) (fun _ => hok z) (fun e => absurd e (by decide))
  have Re : ¬ (nx_fit a 0 (-1) ∧ nx_fit b 0 (-1) ∧ nx_fit c 0 (-1)) → wY_emit_330 post (nI 8) 0 0 0 0 (nI C) hc md (nI s) yec yep cs ms oc uc fc ych fk pn pi ln pg rc sn si sf tn ti tf he ou fr := fun z => ye_330 hs hl (by omega) (fun e => absurd rfl e) (fun _ => href z)
  unfold wpY_emit
  refine br_f (by decide) (br_f (by decide) ⟨vs, br_t (by rw [cs1, hl]; exact nI_lt hlC (by omega)) ?_⟩)
  refine br_f (by decide) (br_f (by decide) (br_f (by decide) (br_f (by decide) (br_f (by decide) (br_f (by decide) (br_f (by decide) (br_f (by decide) (br_f (by decide) (?_)))))))))
  exact Ac ⟨Or.inl rfl, Or.inl rfl, Or.inl rfl⟩
theorem ye_9 (hs : s < 4) (hl : ln s = nI l) (hlC : l < C) (hC : C ≤ 32) {post : Int32 → SY → Prop} (hok : (nx_fit a 0 7 ∧ nx_fit b 0 (-1) ∧ nx_fit c 0 (-1)) → post 1 ((nI C), hc, md, (nI s), yec, yep, 30, 20, 0, 0, 0, ych, fk, pn, pi, (upd ln s (nI (l + 1))), (upd (upd (upd (upd pg ((s * 32 + l) * 4) (nI 9)) (((s * 32 + l) * 4) + 1) a) (((s * 32 + l) * 4) + 2) 0) (((s * 32 + l) * 4) + 3) 0), rc, sn, si, sf, tn, ti, tf, he, ou, fr)) (href : ¬ (nx_fit a 0 7 ∧ nx_fit b 0 (-1) ∧ nx_fit c 0 (-1)) → post 0 ((nI C), hc, md, (nI s), yec, yep, cs, ms, oc, uc, fc, ych, fk, pn, pi, ln, pg, rc, sn, si, sf, tn, ti, tf, he, ou, fr)) : wpY_emit post ((nI C), hc, md, (nI s), yec, yep, cs, ms, oc, uc, fc, ych, fk, pn, pi, ln, pg, rc, sn, si, sf, tn, ti, tf, he, ou, fr) (nI 9) a b c := by
  have cs1 : (nI s).toNatClampNeg = s := nI_clamp (by omega)
  have vs : vp_in (nI s) 4 := vp_in_nI hs (by decide)
  have Ac : (nx_fit a 0 7 ∧ nx_fit b 0 (-1) ∧ nx_fit c 0 (-1)) → wY_emit_330 post (nI 9) a 0 0 1 (nI C) hc md (nI s) yec yep cs ms oc uc fc ych fk pn pi ln pg rc sn si sf tn ti tf he ou fr := fun z => ye_330 hs hl (by omega) (fun _ => hok z) (fun e => absurd e (by decide))
  have Re : ¬ (nx_fit a 0 7 ∧ nx_fit b 0 (-1) ∧ nx_fit c 0 (-1)) → wY_emit_330 post (nI 9) a 0 0 0 (nI C) hc md (nI s) yec yep cs ms oc uc fc ych fk pn pi ln pg rc sn si sf tn ti tf he ou fr := fun z => ye_330 hs hl (by omega) (fun e => absurd rfl e) (fun _ => href z)
  unfold wpY_emit
  refine br_f (by decide) (br_f (by decide) ⟨vs, br_t (by rw [cs1, hl]; exact nI_lt hlC (by omega)) ?_⟩)
  refine br_f (by decide) (br_t (by decide) ?_)
  unfold wY_emit_50
  exact yl_loc (fun fa => Ac ⟨fa, Or.inl rfl, Or.inl rfl⟩) (fun fa => Re (fun z => fa z.1))
end
section
variable {cc hc md sel cs ec ep ms oc fc uc : Int32} {fk pn pi ln pg so ed he fr ou : Nat → Int32} {s C : Nat}
theorem xm_A0 : ∀ P : Int32 → Prop, P 7 → wpX_mostOfA P ((nI C), hc, md, (nI s), cs, ec, ep, ms, oc, fc, uc, fk, pn, pi, ln, pg, so, ed, he, fr, ou) (nI 0) := by
  intro P p
  unfold wpX_mostOfA
  exact br_f (by decide) (br_f (by decide) p)
theorem xm_B0 : ∀ P : Int32 → Prop, P (-1) → wpX_mostOfB P ((nI C), hc, md, (nI s), cs, ec, ep, ms, oc, fc, uc, fk, pn, pi, ln, pg, so, ed, he, fr, ou) (nI 0) := by
  intro P p
  unfold wpX_mostOfB
  exact br_t (by decide) p
theorem xm_C0 : ∀ P : Int32 → Prop, P (-1) → wpX_mostOfC P (nI 0) := by
  intro P p
  unfold wpX_mostOfC
  exact br_t (by decide) p
theorem xm_A1 : ∀ P : Int32 → Prop, P 7 → wpX_mostOfA P ((nI C), hc, md, (nI s), cs, ec, ep, ms, oc, fc, uc, fk, pn, pi, ln, pg, so, ed, he, fr, ou) (nI 1) := by
  intro P p
  unfold wpX_mostOfA
  exact br_f (by decide) (br_f (by decide) p)
theorem xm_B1 : ∀ P : Int32 → Prop, P 7 → wpX_mostOfB P ((nI C), hc, md, (nI s), cs, ec, ep, ms, oc, fc, uc, fk, pn, pi, ln, pg, so, ed, he, fr, ou) (nI 1) := by
  intro P p
  unfold wpX_mostOfB
  exact br_f (by decide) (br_f (by decide) (br_t (by decide) p))
theorem xm_C1 : ∀ P : Int32 → Prop, P (-1) → wpX_mostOfC P (nI 1) := by
  intro P p
  unfold wpX_mostOfC
  exact br_t (by decide) p
theorem xm_A2 : ∀ P : Int32 → Prop, P 7 → wpX_mostOfA P ((nI C), hc, md, (nI s), cs, ec, ep, ms, oc, fc, uc, fk, pn, pi, ln, pg, so, ed, he, fr, ou) (nI 2) := by
  intro P p
  unfold wpX_mostOfA
  exact br_f (by decide) (br_f (by decide) p)
theorem xm_B2 : ∀ P : Int32 → Prop, P 3 → wpX_mostOfB P ((nI C), hc, md, (nI s), cs, ec, ep, ms, oc, fc, uc, fk, pn, pi, ln, pg, so, ed, he, fr, ou) (nI 2) := by
  intro P p
  unfold wpX_mostOfB
  exact br_f (by decide) (br_f (by decide) (br_f (by decide) (br_t (by decide) p)))
theorem xm_C2 : ∀ P : Int32 → Prop, P 7 → wpX_mostOfC P (nI 2) := by
  intro P p
  unfold wpX_mostOfC
  exact br_f (by decide) (br_f (by decide) (br_t (by decide) p))
theorem xm_A3 : ∀ P : Int32 → Prop, P 7 → wpX_mostOfA P ((nI C), hc, md, (nI s), cs, ec, ep, ms, oc, fc, uc, fk, pn, pi, ln, pg, so, ed, he, fr, ou) (nI 3) := by
  intro P p
  unfold wpX_mostOfA
  exact br_f (by decide) (br_f (by decide) p)
theorem xm_B3 : ∀ P : Int32 → Prop, P 7 → wpX_mostOfB P ((nI C), hc, md, (nI s), cs, ec, ep, ms, oc, fc, uc, fk, pn, pi, ln, pg, so, ed, he, fr, ou) (nI 3) := by
  intro P p
  unfold wpX_mostOfB
  exact br_f (by decide) (br_f (by decide) (br_f (by decide) (br_f (by decide) (br_t (by decide) p))))
theorem xm_C3 : ∀ P : Int32 → Prop, P 3 → wpX_mostOfC P (nI 3) := by
  intro P p
  unfold wpX_mostOfC
  exact br_f (by decide) (br_f (by decide) (br_f (by decide) (br_t (by decide) p)))
theorem xm_A4 : ∀ P : Int32 → Prop, P 7 → wpX_mostOfA P ((nI C), hc, md, (nI s), cs, ec, ep, ms, oc, fc, uc, fk, pn, pi, ln, pg, so, ed, he, fr, ou) (nI 4) := by
  intro P p
  unfold wpX_mostOfA
  exact br_f (by decide) (br_f (by decide) p)
theorem xm_B4 : ∀ P : Int32 → Prop, P 3 → wpX_mostOfB P ((nI C), hc, md, (nI s), cs, ec, ep, ms, oc, fc, uc, fk, pn, pi, ln, pg, so, ed, he, fr, ou) (nI 4) := by
  intro P p
  unfold wpX_mostOfB
  exact br_f (by decide) (br_f (by decide) (br_f (by decide) (br_f (by decide) (br_f (by decide) (br_t (by decide) p)))))
theorem xm_C4 : ∀ P : Int32 → Prop, P 7 → wpX_mostOfC P (nI 4) := by
  intro P p
  unfold wpX_mostOfC
  exact br_f (by decide) (br_f (by decide) (br_f (by decide) (br_f (by decide) (br_t (by decide) p))))
theorem xm_A5 : ∀ P : Int32 → Prop, P 7 → wpX_mostOfA P ((nI C), hc, md, (nI s), cs, ec, ep, ms, oc, fc, uc, fk, pn, pi, ln, pg, so, ed, he, fr, ou) (nI 5) := by
  intro P p
  unfold wpX_mostOfA
  exact br_f (by decide) (br_f (by decide) p)
theorem xm_B5 : ∀ P : Int32 → Prop, P (nI C) → wpX_mostOfB P ((nI C), hc, md, (nI s), cs, ec, ep, ms, oc, fc, uc, fk, pn, pi, ln, pg, so, ed, he, fr, ou) (nI 5) := by
  intro P p
  unfold wpX_mostOfB
  exact br_f (by decide) (br_f (by decide) (br_f (by decide) (br_f (by decide) (br_f (by decide) (br_f (by decide) (br_t (by decide) p))))))
theorem xm_C5 : ∀ P : Int32 → Prop, P (-1) → wpX_mostOfC P (nI 5) := by
  intro P p
  unfold wpX_mostOfC
  exact br_f (by decide) (br_t (by decide) p)
theorem xm_A6 : ∀ P : Int32 → Prop, P 7 → wpX_mostOfA P ((nI C), hc, md, (nI s), cs, ec, ep, ms, oc, fc, uc, fk, pn, pi, ln, pg, so, ed, he, fr, ou) (nI 6) := by
  intro P p
  unfold wpX_mostOfA
  exact br_f (by decide) (br_f (by decide) p)
theorem xm_B6 : ∀ P : Int32 → Prop, P (nI C) → wpX_mostOfB P ((nI C), hc, md, (nI s), cs, ec, ep, ms, oc, fc, uc, fk, pn, pi, ln, pg, so, ed, he, fr, ou) (nI 6) := by
  intro P p
  unfold wpX_mostOfB
  exact br_f (by decide) (br_f (by decide) (br_f (by decide) (br_f (by decide) (br_f (by decide) (br_f (by decide) (br_f (by decide) (br_t (by decide) p)))))))
theorem xm_C6 : ∀ P : Int32 → Prop, P (-1) → wpX_mostOfC P (nI 6) := by
  intro P p
  unfold wpX_mostOfC
  exact br_f (by decide) (br_t (by decide) p)
theorem xm_A7 : ∀ P : Int32 → Prop, P (nI C) → wpX_mostOfA P ((nI C), hc, md, (nI s), cs, ec, ep, ms, oc, fc, uc, fk, pn, pi, ln, pg, so, ed, he, fr, ou) (nI 7) := by
  intro P p
  unfold wpX_mostOfA
  exact br_f (by decide) (br_t (by decide) p)
theorem xm_B7 : ∀ P : Int32 → Prop, P (-1) → wpX_mostOfB P ((nI C), hc, md, (nI s), cs, ec, ep, ms, oc, fc, uc, fk, pn, pi, ln, pg, so, ed, he, fr, ou) (nI 7) := by
  intro P p
  unfold wpX_mostOfB
  exact br_f (by decide) (br_t (by decide) p)
theorem xm_C7 : ∀ P : Int32 → Prop, P (-1) → wpX_mostOfC P (nI 7) := by
  intro P p
  unfold wpX_mostOfC
  exact br_f (by decide) (br_t (by decide) p)
theorem xm_A8 : ∀ P : Int32 → Prop, P (-1) → wpX_mostOfA P ((nI C), hc, md, (nI s), cs, ec, ep, ms, oc, fc, uc, fk, pn, pi, ln, pg, so, ed, he, fr, ou) (nI 8) := by
  intro P p
  unfold wpX_mostOfA
  exact br_t (by decide) p
theorem xm_B8 : ∀ P : Int32 → Prop, P (-1) → wpX_mostOfB P ((nI C), hc, md, (nI s), cs, ec, ep, ms, oc, fc, uc, fk, pn, pi, ln, pg, so, ed, he, fr, ou) (nI 8) := by
  intro P p
  unfold wpX_mostOfB
  exact br_f (by decide) (br_t (by decide) p)
theorem xm_C8 : ∀ P : Int32 → Prop, P (-1) → wpX_mostOfC P (nI 8) := by
  intro P p
  unfold wpX_mostOfC
  exact br_f (by decide) (br_t (by decide) p)
theorem xm_A9 : ∀ P : Int32 → Prop, P 7 → wpX_mostOfA P ((nI C), hc, md, (nI s), cs, ec, ep, ms, oc, fc, uc, fk, pn, pi, ln, pg, so, ed, he, fr, ou) (nI 9) := by
  intro P p
  unfold wpX_mostOfA
  exact br_f (by decide) (br_f (by decide) p)
theorem xm_B9 : ∀ P : Int32 → Prop, P (-1) → wpX_mostOfB P ((nI C), hc, md, (nI s), cs, ec, ep, ms, oc, fc, uc, fk, pn, pi, ln, pg, so, ed, he, fr, ou) (nI 9) := by
  intro P p
  unfold wpX_mostOfB
  exact br_f (by decide) (br_t (by decide) p)
theorem xm_C9 : ∀ P : Int32 → Prop, P (-1) → wpX_mostOfC P (nI 9) := by
  intro P p
  unfold wpX_mostOfC
  exact br_f (by decide) (br_t (by decide) p)
end
end
section
/-! emit, info, the constructors -/
theorem nx_r7 {x : Int32} (h : nx_fit x 0 7) : ∃ j, j ≤ 7 ∧ x = nI j := nx_of (n := 7) (by decide) h
theorem nx_r3 {x : Int32} (h : nx_fit x 0 3) : ∃ j, j ≤ 3 ∧ x = nI j := nx_of (n := 3) (by decide) h
theorem nx_r13 {x : Int32} (h : nx_fit x 1 3) : ∃ j, 1 ≤ j ∧ j ≤ 3 ∧ x = nI j := by
  have h1 := nx_lo h (by decide)
  have h2 := nx_hi h (by decide)
  have e1 : ¬ x < 0 := fun z => h1 (Int32.lt_trans z (by decide))
  obtain ⟨j, hj, rfl⟩ := nI_of e1
  refine ⟨j, ?_, ?_, rfl⟩
  · by_cases z : 1 ≤ j
    · exact z
    · exact absurd ((nl_lt1 hj).mpr (by omega)) h1
  · by_cases z : j ≤ 3
    · exact z
    · exact absurd ((nl_gt3 hj).mpr (by omega)) h2
theorem em_0 {k C H D O F U s : Nat} {L : Nat → Nat} {cs ec ep ms yec yep ych : Int32} {fk pn pi ln pg so ed he fr ou rc sn si sf tn ti tf : Nat → Int32} (hI : ni_I C H D O F U s L cs ep yep fk pn pi ln pg so he fr rc sn si sf) (hls : L s < C) (v2 v3 v4 : Int32) : wpX_emit (fun r u' => wpY_emit (fun r' v' => r' = r ∧ i_Rel (k + 5) u' v') ((nI C), (nI H), (nI D), (nI s), yec, yep, cs, ms, (nI O), (nI U), (nI F), ych, fk, pn, pi, ln, pg, rc, sn, si, sf, tn, ti, tf, he, ou, fr) (nI 0) v2 v3 v4) ((nI C), (nI H), (nI D), (nI s), cs, ec, ep, ms, (nI O), (nI F), (nI U), fk, pn, pi, ln, pg, so, ed, he, fr, ou) (nI 0) v2 v3 v4 := by
  have hs := hI.1.2.2.2.2.2
  have hC := hI.1.2.1
  obtain ⟨hl, _⟩ := hI.2.2.1 s hs
  refine xe_op (n := 0) (mA := 7) (mB := -1) (mC := -1) (lB := 0) (vA := v2) (vB := 0) (vC := 0) (by omega) hs hl hls hC (if_neg (by decide)).symm (if_pos rfl).symm (if_pos rfl).symm xm_A0 xm_B0 xm_C0 (by decide) (fun z => ye_0 hs hl hls hC (fun _ => ⟨rfl, ?_⟩) (fun y => absurd z y)) (fun z => ye_0 hs hl hls hC (fun y => absurd y z) (fun _ => ⟨rfl, ni_mk hI⟩))
  · clear hl
    obtain ⟨A, hA, rfl⟩ := nx_r7 z.1
    exact ni_mk (O := 0) (F := 0) (U := 0) (L := fun j => if j = s then L s + 1 else L j) (ni_edit hI hI.2.1 (nv_lnE hI.2.2.1 hls) (nv_pgE (o := 0) (A := A) (B := 0) (K := 0) hI.2.2.2.1 (fun j hj => Nat.le_trans (hI.2.2.1 j hj).2 hC) hs (by omega) (by unfold nv_in; omega)))
theorem em_1 {k C H D O F U s : Nat} {L : Nat → Nat} {cs ec ep ms yec yep ych : Int32} {fk pn pi ln pg so ed he fr ou rc sn si sf tn ti tf : Nat → Int32} (hI : ni_I C H D O F U s L cs ep yep fk pn pi ln pg so he fr rc sn si sf) (hls : L s < C) (v2 v3 v4 : Int32) : wpX_emit (fun r u' => wpY_emit (fun r' v' => r' = r ∧ i_Rel (k + 5) u' v') ((nI C), (nI H), (nI D), (nI s), yec, yep, cs, ms, (nI O), (nI U), (nI F), ych, fk, pn, pi, ln, pg, rc, sn, si, sf, tn, ti, tf, he, ou, fr) (nI 1) v2 v3 v4) ((nI C), (nI H), (nI D), (nI s), cs, ec, ep, ms, (nI O), (nI F), (nI U), fk, pn, pi, ln, pg, so, ed, he, fr, ou) (nI 1) v2 v3 v4 := by
  have hs := hI.1.2.2.2.2.2
  have hC := hI.1.2.1
  obtain ⟨hl, _⟩ := hI.2.2.1 s hs
  refine xe_op (n := 1) (mA := 7) (mB := 7) (mC := -1) (lB := 0) (vA := v2) (vB := v3) (vC := 0) (by omega) hs hl hls hC (if_neg (by decide)).symm (if_neg (by decide)).symm (if_pos rfl).symm xm_A1 xm_B1 xm_C1 (by decide) (fun z => ye_1 hs hl hls hC (fun _ => ⟨rfl, ?_⟩) (fun y => absurd z y)) (fun z => ye_1 hs hl hls hC (fun y => absurd y z) (fun _ => ⟨rfl, ni_mk hI⟩))
  · clear hl
    obtain ⟨A, hA, rfl⟩ := nx_r7 z.1
    obtain ⟨B, hB, rfl⟩ := nx_r7 z.2.1
    exact ni_mk (O := 0) (F := 0) (U := 0) (L := fun j => if j = s then L s + 1 else L j) (ni_edit hI hI.2.1 (nv_lnE hI.2.2.1 hls) (nv_pgE (o := 1) (A := A) (B := B) (K := 0) hI.2.2.2.1 (fun j hj => Nat.le_trans (hI.2.2.1 j hj).2 hC) hs (by omega) (by unfold nv_in; omega)))
theorem em_2 {k C H D O F U s : Nat} {L : Nat → Nat} {cs ec ep ms yec yep ych : Int32} {fk pn pi ln pg so ed he fr ou rc sn si sf tn ti tf : Nat → Int32} (hI : ni_I C H D O F U s L cs ep yep fk pn pi ln pg so he fr rc sn si sf) (hls : L s < C) (v2 v3 v4 : Int32) : wpX_emit (fun r u' => wpY_emit (fun r' v' => r' = r ∧ i_Rel (k + 5) u' v') ((nI C), (nI H), (nI D), (nI s), yec, yep, cs, ms, (nI O), (nI U), (nI F), ych, fk, pn, pi, ln, pg, rc, sn, si, sf, tn, ti, tf, he, ou, fr) (nI 2) v2 v3 v4) ((nI C), (nI H), (nI D), (nI s), cs, ec, ep, ms, (nI O), (nI F), (nI U), fk, pn, pi, ln, pg, so, ed, he, fr, ou) (nI 2) v2 v3 v4 := by
  have hs := hI.1.2.2.2.2.2
  have hC := hI.1.2.1
  obtain ⟨hl, _⟩ := hI.2.2.1 s hs
  refine xe_op (n := 2) (mA := 7) (mB := 3) (mC := 7) (lB := 1) (vA := v2) (vB := v3) (vC := v4) (by omega) hs hl hls hC (if_neg (by decide)).symm (if_neg (by decide)).symm (if_neg (by decide)).symm xm_A2 xm_B2 xm_C2 (by decide) (fun z => ye_2 hs hl hls hC (fun _ => ⟨rfl, ?_⟩) (fun y => absurd z y)) (fun z => ye_2 hs hl hls hC (fun y => absurd y z) (fun _ => ⟨rfl, ni_mk hI⟩))
  · clear hl
    obtain ⟨A, hA, rfl⟩ := nx_r7 z.1
    obtain ⟨B, hB1, hB, rfl⟩ := nx_r13 z.2.1
    obtain ⟨K, hK, rfl⟩ := nx_r7 z.2.2
    exact ni_mk (O := 0) (F := 0) (U := 0) (L := fun j => if j = s then L s + 1 else L j) (ni_edit hI hI.2.1 (nv_lnE hI.2.2.1 hls) (nv_pgE (o := 2) (A := A) (B := B) (K := K) hI.2.2.2.1 (fun j hj => Nat.le_trans (hI.2.2.1 j hj).2 hC) hs (by omega) (by unfold nv_in; omega)))
theorem em_3 {k C H D O F U s : Nat} {L : Nat → Nat} {cs ec ep ms yec yep ych : Int32} {fk pn pi ln pg so ed he fr ou rc sn si sf tn ti tf : Nat → Int32} (hI : ni_I C H D O F U s L cs ep yep fk pn pi ln pg so he fr rc sn si sf) (hls : L s < C) (v2 v3 v4 : Int32) : wpX_emit (fun r u' => wpY_emit (fun r' v' => r' = r ∧ i_Rel (k + 5) u' v') ((nI C), (nI H), (nI D), (nI s), yec, yep, cs, ms, (nI O), (nI U), (nI F), ych, fk, pn, pi, ln, pg, rc, sn, si, sf, tn, ti, tf, he, ou, fr) (nI 3) v2 v3 v4) ((nI C), (nI H), (nI D), (nI s), cs, ec, ep, ms, (nI O), (nI F), (nI U), fk, pn, pi, ln, pg, so, ed, he, fr, ou) (nI 3) v2 v3 v4 := by
  have hs := hI.1.2.2.2.2.2
  have hC := hI.1.2.1
  obtain ⟨hl, _⟩ := hI.2.2.1 s hs
  refine xe_op (n := 3) (mA := 7) (mB := 7) (mC := 3) (lB := 0) (vA := v2) (vB := v3) (vC := v4) (by omega) hs hl hls hC (if_neg (by decide)).symm (if_neg (by decide)).symm (if_neg (by decide)).symm xm_A3 xm_B3 xm_C3 (by decide) (fun z => ye_3 hs hl hls hC (fun _ => ⟨rfl, ?_⟩) (fun y => absurd z y)) (fun z => ye_3 hs hl hls hC (fun y => absurd y z) (fun _ => ⟨rfl, ni_mk hI⟩))
  · clear hl
    obtain ⟨A, hA, rfl⟩ := nx_r7 z.1
    obtain ⟨B, hB, rfl⟩ := nx_r7 z.2.1
    obtain ⟨K, hK, rfl⟩ := nx_r3 z.2.2
    exact ni_mk (O := 0) (F := 0) (U := 0) (L := fun j => if j = s then L s + 1 else L j) (ni_edit hI hI.2.1 (nv_lnE hI.2.2.1 hls) (nv_pgE (o := 3) (A := A) (B := B) (K := K) hI.2.2.2.1 (fun j hj => Nat.le_trans (hI.2.2.1 j hj).2 hC) hs (by omega) (by unfold nv_in; omega)))
theorem em_4 {k C H D O F U s : Nat} {L : Nat → Nat} {cs ec ep ms yec yep ych : Int32} {fk pn pi ln pg so ed he fr ou rc sn si sf tn ti tf : Nat → Int32} (hI : ni_I C H D O F U s L cs ep yep fk pn pi ln pg so he fr rc sn si sf) (hls : L s < C) (v2 v3 v4 : Int32) : wpX_emit (fun r u' => wpY_emit (fun r' v' => r' = r ∧ i_Rel (k + 5) u' v') ((nI C), (nI H), (nI D), (nI s), yec, yep, cs, ms, (nI O), (nI U), (nI F), ych, fk, pn, pi, ln, pg, rc, sn, si, sf, tn, ti, tf, he, ou, fr) (nI 4) v2 v3 v4) ((nI C), (nI H), (nI D), (nI s), cs, ec, ep, ms, (nI O), (nI F), (nI U), fk, pn, pi, ln, pg, so, ed, he, fr, ou) (nI 4) v2 v3 v4 := by
  have hs := hI.1.2.2.2.2.2
  have hC := hI.1.2.1
  obtain ⟨hl, _⟩ := hI.2.2.1 s hs
  refine xe_op (n := 4) (mA := 7) (mB := 3) (mC := 7) (lB := 0) (vA := v2) (vB := v3) (vC := v4) (by omega) hs hl hls hC (if_neg (by decide)).symm (if_neg (by decide)).symm (if_neg (by decide)).symm xm_A4 xm_B4 xm_C4 (by decide) (fun z => ye_4 hs hl hls hC (fun _ => ⟨rfl, ?_⟩) (fun y => absurd z y)) (fun z => ye_4 hs hl hls hC (fun y => absurd y z) (fun _ => ⟨rfl, ni_mk hI⟩))
  · clear hl
    obtain ⟨A, hA, rfl⟩ := nx_r7 z.1
    obtain ⟨B, hB, rfl⟩ := nx_r3 z.2.1
    obtain ⟨K, hK, rfl⟩ := nx_r7 z.2.2
    exact ni_mk (O := 0) (F := 0) (U := 0) (L := fun j => if j = s then L s + 1 else L j) (ni_edit hI hI.2.1 (nv_lnE hI.2.2.1 hls) (nv_pgE (o := 4) (A := A) (B := B) (K := K) hI.2.2.2.1 (fun j hj => Nat.le_trans (hI.2.2.1 j hj).2 hC) hs (by omega) (by unfold nv_in; omega)))
theorem em_5 {k C H D O F U s : Nat} {L : Nat → Nat} {cs ec ep ms yec yep ych : Int32} {fk pn pi ln pg so ed he fr ou rc sn si sf tn ti tf : Nat → Int32} (hI : ni_I C H D O F U s L cs ep yep fk pn pi ln pg so he fr rc sn si sf) (hls : L s < C) (v2 v3 v4 : Int32) : wpX_emit (fun r u' => wpY_emit (fun r' v' => r' = r ∧ i_Rel (k + 5) u' v') ((nI C), (nI H), (nI D), (nI s), yec, yep, cs, ms, (nI O), (nI U), (nI F), ych, fk, pn, pi, ln, pg, rc, sn, si, sf, tn, ti, tf, he, ou, fr) (nI 5) v2 v3 v4) ((nI C), (nI H), (nI D), (nI s), cs, ec, ep, ms, (nI O), (nI F), (nI U), fk, pn, pi, ln, pg, so, ed, he, fr, ou) (nI 5) v2 v3 v4 := by
  have hs := hI.1.2.2.2.2.2
  have hC := hI.1.2.1
  obtain ⟨hl, _⟩ := hI.2.2.1 s hs
  refine xe_op (n := 5) (mA := 7) (mB := nI C) (mC := -1) (lB := 0) (vA := v2) (vB := v3) (vC := 0) (by omega) hs hl hls hC (if_neg (by decide)).symm (if_neg (nc_m1 (by omega))).symm (if_pos rfl).symm xm_A5 xm_B5 xm_C5 (by decide) (fun z => ye_5 hs hl hls hC (fun _ => ⟨rfl, ?_⟩) (fun y => absurd z y)) (fun z => ye_5 hs hl hls hC (fun y => absurd y z) (fun _ => ⟨rfl, ni_mk hI⟩))
  · clear hl
    obtain ⟨A, hA, rfl⟩ := nx_r7 z.1
    obtain ⟨B, hB, rfl⟩ := nx_of (n := C) (by omega) z.2.1
    exact ni_mk (O := 0) (F := 0) (U := 0) (L := fun j => if j = s then L s + 1 else L j) (ni_edit hI hI.2.1 (nv_lnE hI.2.2.1 hls) (nv_pgE (o := 5) (A := A) (B := B) (K := 0) hI.2.2.2.1 (fun j hj => Nat.le_trans (hI.2.2.1 j hj).2 hC) hs (by omega) (by unfold nv_in; omega)))
theorem em_6 {k C H D O F U s : Nat} {L : Nat → Nat} {cs ec ep ms yec yep ych : Int32} {fk pn pi ln pg so ed he fr ou rc sn si sf tn ti tf : Nat → Int32} (hI : ni_I C H D O F U s L cs ep yep fk pn pi ln pg so he fr rc sn si sf) (hls : L s < C) (v2 v3 v4 : Int32) : wpX_emit (fun r u' => wpY_emit (fun r' v' => r' = r ∧ i_Rel (k + 5) u' v') ((nI C), (nI H), (nI D), (nI s), yec, yep, cs, ms, (nI O), (nI U), (nI F), ych, fk, pn, pi, ln, pg, rc, sn, si, sf, tn, ti, tf, he, ou, fr) (nI 6) v2 v3 v4) ((nI C), (nI H), (nI D), (nI s), cs, ec, ep, ms, (nI O), (nI F), (nI U), fk, pn, pi, ln, pg, so, ed, he, fr, ou) (nI 6) v2 v3 v4 := by
  have hs := hI.1.2.2.2.2.2
  have hC := hI.1.2.1
  obtain ⟨hl, _⟩ := hI.2.2.1 s hs
  refine xe_op (n := 6) (mA := 7) (mB := nI C) (mC := -1) (lB := 0) (vA := v2) (vB := v3) (vC := 0) (by omega) hs hl hls hC (if_neg (by decide)).symm (if_neg (nc_m1 (by omega))).symm (if_pos rfl).symm xm_A6 xm_B6 xm_C6 (by decide) (fun z => ye_6 hs hl hls hC (fun _ => ⟨rfl, ?_⟩) (fun y => absurd z y)) (fun z => ye_6 hs hl hls hC (fun y => absurd y z) (fun _ => ⟨rfl, ni_mk hI⟩))
  · clear hl
    obtain ⟨A, hA, rfl⟩ := nx_r7 z.1
    obtain ⟨B, hB, rfl⟩ := nx_of (n := C) (by omega) z.2.1
    exact ni_mk (O := 0) (F := 0) (U := 0) (L := fun j => if j = s then L s + 1 else L j) (ni_edit hI hI.2.1 (nv_lnE hI.2.2.1 hls) (nv_pgE (o := 6) (A := A) (B := B) (K := 0) hI.2.2.2.1 (fun j hj => Nat.le_trans (hI.2.2.1 j hj).2 hC) hs (by omega) (by unfold nv_in; omega)))
theorem em_7 {k C H D O F U s : Nat} {L : Nat → Nat} {cs ec ep ms yec yep ych : Int32} {fk pn pi ln pg so ed he fr ou rc sn si sf tn ti tf : Nat → Int32} (hI : ni_I C H D O F U s L cs ep yep fk pn pi ln pg so he fr rc sn si sf) (hls : L s < C) (v2 v3 v4 : Int32) : wpX_emit (fun r u' => wpY_emit (fun r' v' => r' = r ∧ i_Rel (k + 5) u' v') ((nI C), (nI H), (nI D), (nI s), yec, yep, cs, ms, (nI O), (nI U), (nI F), ych, fk, pn, pi, ln, pg, rc, sn, si, sf, tn, ti, tf, he, ou, fr) (nI 7) v2 v3 v4) ((nI C), (nI H), (nI D), (nI s), cs, ec, ep, ms, (nI O), (nI F), (nI U), fk, pn, pi, ln, pg, so, ed, he, fr, ou) (nI 7) v2 v3 v4 := by
  have hs := hI.1.2.2.2.2.2
  have hC := hI.1.2.1
  obtain ⟨hl, _⟩ := hI.2.2.1 s hs
  refine xe_op (n := 7) (mA := nI C) (mB := -1) (mC := -1) (lB := 0) (vA := v2) (vB := 0) (vC := 0) (by omega) hs hl hls hC (if_neg (nc_m1 (by omega))).symm (if_pos rfl).symm (if_pos rfl).symm xm_A7 xm_B7 xm_C7 (by decide) (fun z => ye_7 hs hl hls hC (fun _ => ⟨rfl, ?_⟩) (fun y => absurd z y)) (fun z => ye_7 hs hl hls hC (fun y => absurd y z) (fun _ => ⟨rfl, ni_mk hI⟩))
  · clear hl
    obtain ⟨A, hA, rfl⟩ := nx_of (n := C) (by omega) z.1
    exact ni_mk (O := 0) (F := 0) (U := 0) (L := fun j => if j = s then L s + 1 else L j) (ni_edit hI hI.2.1 (nv_lnE hI.2.2.1 hls) (nv_pgE (o := 7) (A := A) (B := 0) (K := 0) hI.2.2.2.1 (fun j hj => Nat.le_trans (hI.2.2.1 j hj).2 hC) hs (by omega) (by unfold nv_in; omega)))
theorem em_8 {k C H D O F U s : Nat} {L : Nat → Nat} {cs ec ep ms yec yep ych : Int32} {fk pn pi ln pg so ed he fr ou rc sn si sf tn ti tf : Nat → Int32} (hI : ni_I C H D O F U s L cs ep yep fk pn pi ln pg so he fr rc sn si sf) (hls : L s < C) (v2 v3 v4 : Int32) : wpX_emit (fun r u' => wpY_emit (fun r' v' => r' = r ∧ i_Rel (k + 5) u' v') ((nI C), (nI H), (nI D), (nI s), yec, yep, cs, ms, (nI O), (nI U), (nI F), ych, fk, pn, pi, ln, pg, rc, sn, si, sf, tn, ti, tf, he, ou, fr) (nI 8) v2 v3 v4) ((nI C), (nI H), (nI D), (nI s), cs, ec, ep, ms, (nI O), (nI F), (nI U), fk, pn, pi, ln, pg, so, ed, he, fr, ou) (nI 8) v2 v3 v4 := by
  have hs := hI.1.2.2.2.2.2
  have hC := hI.1.2.1
  obtain ⟨hl, _⟩ := hI.2.2.1 s hs
  refine xe_op (n := 8) (mA := -1) (mB := -1) (mC := -1) (lB := 0) (vA := 0) (vB := 0) (vC := 0) (by omega) hs hl hls hC (if_pos rfl).symm (if_pos rfl).symm (if_pos rfl).symm xm_A8 xm_B8 xm_C8 (by decide) (fun z => ye_8 hs hl hls hC (fun _ => ⟨rfl, ?_⟩) (fun y => absurd z y)) (fun z => ye_8 hs hl hls hC (fun y => absurd y z) (fun _ => ⟨rfl, ni_mk hI⟩))
  · clear hl
    exact ni_mk (O := 0) (F := 0) (U := 0) (L := fun j => if j = s then L s + 1 else L j) (ni_edit hI hI.2.1 (nv_lnE hI.2.2.1 hls) (nv_pgE (o := 8) (A := 0) (B := 0) (K := 0) hI.2.2.2.1 (fun j hj => Nat.le_trans (hI.2.2.1 j hj).2 hC) hs (by omega) (by unfold nv_in; omega)))
theorem em_9 {k C H D O F U s : Nat} {L : Nat → Nat} {cs ec ep ms yec yep ych : Int32} {fk pn pi ln pg so ed he fr ou rc sn si sf tn ti tf : Nat → Int32} (hI : ni_I C H D O F U s L cs ep yep fk pn pi ln pg so he fr rc sn si sf) (hls : L s < C) (v2 v3 v4 : Int32) : wpX_emit (fun r u' => wpY_emit (fun r' v' => r' = r ∧ i_Rel (k + 5) u' v') ((nI C), (nI H), (nI D), (nI s), yec, yep, cs, ms, (nI O), (nI U), (nI F), ych, fk, pn, pi, ln, pg, rc, sn, si, sf, tn, ti, tf, he, ou, fr) (nI 9) v2 v3 v4) ((nI C), (nI H), (nI D), (nI s), cs, ec, ep, ms, (nI O), (nI F), (nI U), fk, pn, pi, ln, pg, so, ed, he, fr, ou) (nI 9) v2 v3 v4 := by
  have hs := hI.1.2.2.2.2.2
  have hC := hI.1.2.1
  obtain ⟨hl, _⟩ := hI.2.2.1 s hs
  refine xe_op (n := 9) (mA := 7) (mB := -1) (mC := -1) (lB := 0) (vA := v2) (vB := 0) (vC := 0) (by omega) hs hl hls hC (if_neg (by decide)).symm (if_pos rfl).symm (if_pos rfl).symm xm_A9 xm_B9 xm_C9 (by decide) (fun z => ye_9 hs hl hls hC (fun _ => ⟨rfl, ?_⟩) (fun y => absurd z y)) (fun z => ye_9 hs hl hls hC (fun y => absurd y z) (fun _ => ⟨rfl, ni_mk hI⟩))
  · clear hl
    obtain ⟨A, hA, rfl⟩ := nx_r7 z.1
    exact ni_mk (O := 0) (F := 0) (U := 0) (L := fun j => if j = s then L s + 1 else L j) (ni_edit hI hI.2.1 (nv_lnE hI.2.2.1 hls) (nv_pgE (o := 9) (A := A) (B := 0) (K := 0) hI.2.2.2.1 (fun j hj => Nat.le_trans (hI.2.2.1 j hj).2 hC) hs (by omega) (by unfold nv_in; omega)))
theorem i_vc_emit {k : Nat} {u : SX} {v : SY} (I : i_Rel k u v) (hk : k + 5 ≤ 2563) (v1 : Int32) (v2 : Int32) (v3 : Int32) (v4 : Int32) : wpX_emit (fun r u' => wpY_emit (fun r' v' => r' = r ∧ i_Rel (k + 5) u' v') v v1 v2 v3 v4) u v1 v2 v3 v4 := by
  have J : i_Rel (k + 5) u v := i_up I
  obtain ⟨C, H, D, O, F, U, s, L, cs, ec, ep, ms, yec, yep, ych, fk, pn, pi, ln, pg, so, ed, he, fr, ou, rc, sn, si, sf, tn, ti, tf, rfl, rfl, hI⟩ := I
  have hs := hI.1.2.2.2.2.2
  have hC := hI.1.2.1
  obtain ⟨hl, hlC⟩ := hI.2.2.1 s hs
  rcases nn_rng v1 9 (by omega) with ⟨n, hn, rfl⟩ | ⟨h1, h2, h3, h4⟩ | ⟨h1, h2, h3, h4⟩
  · by_cases hls : L s < C
    · have ho : n = 0 ∨ n = 1 ∨ n = 2 ∨ n = 3 ∨ n = 4 ∨ n = 5 ∨ n = 6 ∨ n = 7 ∨ n = 8 ∨ n = 9 := by omega
      rcases ho with rfl | rfl | rfl | rfl | rfl | rfl | rfl | rfl | rfl | rfl
      · exact em_0 hI hls v2 v3 v4
      · exact em_1 hI hls v2 v3 v4
      · exact em_2 hI hls v2 v3 v4
      · exact em_3 hI hls v2 v3 v4
      · exact em_4 hI hls v2 v3 v4
      · exact em_5 hI hls v2 v3 v4
      · exact em_6 hI hls v2 v3 v4
      · exact em_7 hI hls v2 v3 v4
      · exact em_8 hI hls v2 v3 v4
      · exact em_9 hI hls v2 v3 v4
    · have cs1 : (nI s).toNatClampNeg = s := nI_clamp (by omega)
      have vs : vp_in (nI s) 4 := vp_in_nI hs (by decide)
      have nl : ¬ ln (nI s).toNatClampNeg < nI C := by
        rw [cs1, hl]
        exact nI_nlt (by omega) (by omega)
      unfold wpX_emit wpY_emit
      exact xs_wi (nI_pos (by omega)) (nn_n2 hn (by decide)) (br_f (by decide) ⟨vs, br_f nl (br_f (nI_pos (by omega)) (br_f (nn_n2 hn (by decide)) ⟨vs, br_f nl ⟨rfl, J⟩⟩))⟩)
  · unfold wpX_emit wpY_emit
    exact xs_wl h1 (br_t rfl (br_t h1 ⟨rfl, J⟩))
  · unfold wpX_emit wpY_emit
    exact xs_wh h1 h3 (br_t rfl (br_f h1 (br_t h3 ⟨rfl, J⟩)))
theorem nl_lt17 {j : Nat} (h : j < 2 ^ 31) : (nI j < (17 : Int32)) ↔ j < 17 := nI_ltI (b := 17) h (by decide)
theorem nl_eq17 {j : Nat} (h : j < 2 ^ 31) : (nI j = (17 : Int32)) ↔ j = 17 := nI_eq (b := 17) h (by decide)
theorem nl_eq18 {j : Nat} (h : j < 2 ^ 31) : (nI j = (18 : Int32)) ↔ j = 18 := nI_eq (b := 18) h (by decide)
theorem nl_eq19 {j : Nat} (h : j < 2 ^ 31) : (nI j = (19 : Int32)) ↔ j = 19 := nI_eq (b := 19) h (by decide)
theorem nl_gt19 {j : Nat} (h : j < 2 ^ 31) : ((19 : Int32) < nI j) ↔ 19 < j := nI_ltI (a := 19) (by decide) h
theorem nn_sb {j : Nat} (c : Nat) (h : c ≤ j) : nI j - nI c = nI (j - c) := pk_sub h
theorem i_vc_info {k : Nat} {u : SX} {v : SY} (I : i_Rel k u v) (hk : k + 5 ≤ 2563) (v1 : Int32) : wpX_info (fun r => wpY_info (fun r' => r' = r ∧ i_Rel (k + 5) u v) v v1) u v1 := by
  have J : i_Rel (k + 5) u v := i_up I
  obtain ⟨C, H, D, O, F, U, s, L, cs, ec, ep, ms, yec, yep, ych, fk, pn, pi, ln, pg, so, ed, he, fr, ou, rc, sn, si, sf, tn, ti, tf, rfl, rfl, hI⟩ := I
  unfold wpX_info wpY_info
  by_cases a0 : v1 < 0
  · have a4 : v1 < 4 := Int32.lt_trans a0 (by decide)
    have a7 : v1 < 7 := Int32.lt_trans a0 (by decide)
    have a10 : v1 < 10 := Int32.lt_trans a0 (by decide)
    have a14 : v1 < 14 := Int32.lt_trans a0 (by decide)
    have ne : ∀ c : Int32, 0 ≤ c → ¬ v1 = c := fun c hc z => by
      rw [z] at a0
      exact absurd a0 (Int32.not_lt.mpr hc)
    refine xs_wl a0 (br_t rfl (xs_wl a4 (br_t rfl (xs_wl a7 (br_t rfl (xs_wl a10 (br_t rfl (br_t a14 (br_t a0 ?_)))))))))
    unfold wY_info_16 wY_info_36 wY_info_58 wY_info_80
    exact br_t a4 (br_t a7 (br_t a10 (br_f (ne _ (by decide)) (br_f (ne _ (by decide)) (br_f (ne _ (by decide)) (br_f (ne _ (by decide)) (br_f (ne _ (by decide)) (br_f (ne _ (by decide)) ⟨rfl, J⟩))))))))
  · obtain ⟨j, hj, rfl⟩ := nI_of a0
    by_cases b3 : j ≤ 3
    · have g3 : ¬ (3 : Int32) < nI j := fun z => by
        have := (nl_gt3 hj).mp z
        omega
      exact xs_wi a0 g3 (br_f (by decide) ⟨vp_in_nI (by omega) (by decide), br_f a0 (br_f g3 ⟨vp_in_nI (by omega) (by decide), rfl, J⟩)⟩)
    · have g3 : (3 : Int32) < nI j := (nl_gt3 hj).mpr (by omega)
      have g4 : ¬ nI j < (4 : Int32) := fun z => by
        have := (nl_lt4 hj).mp z
        omega
      by_cases b6 : j ≤ 6
      · have g6 : ¬ (6 : Int32) < nI j := fun z => by
          have := (nl_gt6 hj).mp z
          omega
        have w : vp_in (nI j - 3) 4 := pk_in (j - 3) 4 (by omega) (nn_sb 3 (by omega)) (by decide)
        refine xs_wh a0 g3 (br_t rfl (xs_wi g4 g6 (br_f (by decide) ⟨w, br_f a0 (br_t g3 ?_)⟩)))
        unfold wY_info_16
        exact br_f g4 (br_f g6 ⟨w, rfl, J⟩)
      · have g6 : (6 : Int32) < nI j := (nl_gt6 hj).mpr (by omega)
        have g7 : ¬ nI j < (7 : Int32) := fun z => by
          have := (nl_lt7 hj).mp z
          omega
        by_cases b9 : j ≤ 9
        · have g9 : ¬ (9 : Int32) < nI j := fun z => by
            have := (nl_gt9 hj).mp z
            omega
          have w : vp_in (nI j - 6) 4 := pk_in (j - 6) 4 (by omega) (nn_sb 6 (by omega)) (by decide)
          refine xs_wh a0 g3 (br_t rfl (xs_wh g4 g6 (br_t rfl (xs_wi g7 g9 (br_f (by decide) ⟨w, br_f a0 (br_t g3 ?_)⟩)))))
          unfold wY_info_16 wY_info_36
          exact br_f g4 (br_t g6 (br_f g7 (br_f g9 ⟨w, rfl, J⟩)))
        · have g9 : (9 : Int32) < nI j := (nl_gt9 hj).mpr (by omega)
          have g10 : ¬ nI j < (10 : Int32) := fun z => by
            have := (nl_lt10 hj).mp z
            omega
          by_cases b13 : j ≤ 13
          · have g13 : ¬ (13 : Int32) < nI j := fun z => by
              have := (nl_gt13 hj).mp z
              omega
            have w : vp_in (nI j - 10) 4 := pk_in (j - 10) 4 (by omega) (nn_sb 10 (by omega)) (by decide)
            refine xs_wh a0 g3 (br_t rfl (xs_wh g4 g6 (br_t rfl (xs_wh g7 g9 (br_t rfl (xs_wi g10 g13 (br_f (by decide) ⟨w, br_f a0 (br_t g3 ?_)⟩)))))))
            unfold wY_info_16 wY_info_36 wY_info_58
            exact br_f g4 (br_t g6 (br_f g7 (br_t g9 (br_f g10 (br_f g13 ⟨w, rfl, J⟩)))))
          · have g13 : (13 : Int32) < nI j := (nl_gt13 hj).mpr (by omega)
            have g14 : ¬ nI j < (14 : Int32) := fun z => by
              have := (nl_lt14 hj).mp z
              omega
            refine xs_wh a0 g3 (br_t rfl (xs_wh g4 g6 (br_t rfl (xs_wh g7 g9 (br_t rfl (xs_wh g10 g13 (br_t rfl (br_f g14 ?_))))))))
            unfold wY_info_16 wY_info_36 wY_info_58 wY_info_80
            by_cases b19 : j ≤ 19
            · have ho : j = 14 ∨ j = 15 ∨ j = 16 ∨ j = 17 ∨ j = 18 ∨ j = 19 := by omega
              rcases ho with rfl | rfl | rfl | rfl | rfl | rfl
              · exact br_f (by decide) (br_t (by decide) (br_f a0 (br_t g3 (br_f g4 (br_t g6 (br_f g7 (br_t g9 (br_f g10 (br_t g13 (br_t (by decide) ⟨rfl, J⟩))))))))))
              · exact br_f (by decide) (br_f (by decide) (br_t (by decide) (br_f a0 (br_t g3 (br_f g4 (br_t g6 (br_f g7 (br_t g9 (br_f g10 (br_t g13 (br_f (by decide) (br_t (by decide) ⟨rfl, J⟩))))))))))))
              · exact br_f (by decide) (br_f (by decide) (br_f (by decide) (br_t (by decide) (br_f a0 (br_t g3 (br_f g4 (br_t g6 (br_f g7 (br_t g9 (br_f g10 (br_t g13 (br_f (by decide) (br_f (by decide) (br_t (by decide) ⟨rfl, J⟩))))))))))))))
              · exact br_f (by decide) (br_f (by decide) (br_f (by decide) (br_f (by decide) (br_t (by decide) (br_f a0 (br_t g3 (br_f g4 (br_t g6 (br_f g7 (br_t g9 (br_f g10 (br_t g13 (br_f (by decide) (br_f (by decide) (br_f (by decide) (br_t (by decide) ⟨rfl, J⟩))))))))))))))))
              · exact br_f (by decide) (br_f (by decide) (br_f (by decide) (br_f (by decide) (br_f (by decide) (br_t (by decide) (br_f a0 (br_t g3 (br_f g4 (br_t g6 (br_f g7 (br_t g9 (br_f g10 (br_t g13 (br_f (by decide) (br_f (by decide) (br_f (by decide) (br_f (by decide) (br_t (by decide) ⟨rfl, J⟩))))))))))))))))))
              · exact br_f (by decide) (br_f (by decide) (br_f (by decide) (br_f (by decide) (br_f (by decide) (br_f (by decide) (br_t (by decide) (br_f a0 (br_t g3 (br_f g4 (br_t g6 (br_f g7 (br_t g9 (br_f g10 (br_t g13 (br_f (by decide) (br_f (by decide) (br_f (by decide) (br_f (by decide) (br_f (by decide) (br_t (by decide) ⟨rfl, J⟩))))))))))))))))))))
            · have ne : ∀ (c : Nat), c ≤ 19 → ¬ nI j = nI c := fun c hc z => by
                have := (nI_eq hj (by omega)).mp z
                omega
              exact br_t ((nl_gt19 hj).mpr (by omega)) (br_f a0 (br_t g3 (br_f g4 (br_t g6 (br_f g7 (br_t g9 (br_f g10 (br_t g13 (br_f (ne 14 (by omega)) (br_f (ne 15 (by omega)) (br_f (ne 16 (by omega)) (br_f (ne 17 (by omega)) (br_f (ne 18 (by omega)) (br_f (ne 19 (by omega)) ⟨rfl, J⟩))))))))))))))
theorem xs_clamp {post : Int32 → Prop} {x : Int32} {lo hi c : Nat} (hp : ∀ P : Int32 → Prop, P (nI c) → ((nI lo ≤ x → ((x ≤ nI hi → P x) ∧ (¬ x ≤ nI hi → P (nI hi)))) ∧ (¬ nI lo ≤ x → P (nI lo)))) (h : post (nI c)) : wpX_clamp post x (nI lo) (nI hi) := by
  unfold wpX_clamp
  exact hp post h
theorem ni_z : na_fi (fun _ => (0 : Int32)) 0 4 0 = fun _ => 0 := by
  funext j
  unfold na_fi
  split <;> rfl
section
variable {cc hc md sel cs ec ep ms oc fc uc : Int32} {fk pn pi ln pg so ed he fr ou : Nat → Int32}
theorem x0_144 {post : SX → Prop} (h : post (cc, hc, md, 0, 30, ec, ep, 20, 0, 0, 0, fk, (na_fi pn 0 4 1), (na_fi pi 0 4 0), (na_fi ln 0 4 0), pg, so, ed, he, fr, ou)) : ∃ n, wX_init_144 post cc hc md sel cs ec ep ms oc fc uc n 0 fk pn pi ln pg so ed he fr ou := by
  have K : ∀ d i, i + d = 4 → wX_init_144 post cc hc md sel cs ec ep ms oc fc uc (d + 1) (nI i) fk (na_fi pn 0 i 1) (na_fi pi 0 i 0) (na_fi ln 0 i 0) pg so ed he fr ou := by
    intro d
    induction d with
    | zero =>
      intro i hi
      obtain rfl : i = 4 := by omega
      rw [wX_init_144]
      refine br_t (by decide) ?_
      unfold wpX_resetAfterEdit wpX_clearMachine
      exact h
    | succ d ih =>
      intro i hi
      rw [wX_init_144]
      have vi : vp_in (nI i) 4 := vp_in_nI (by omega) (by decide)
      have ci : (nI i).toNatClampNeg = i := nI_clamp (by omega)
      have e : ∀ (f : Nat → Int32) (w : Int32), upd (na_fi f 0 i w) (nI i).toNatClampNeg w = na_fi f 0 (i + 1) w := fun f w => by rw [ci, na_fiS, Nat.zero_add]
      exact br_f (nn_nge 4 (by omega) (by decide)) ⟨vi, nm_r (e pn 1) ⟨vi, nm_r (e pi 0) ⟨vi, nm_r (e ln 0) (nm_r (nI_1 i) (ih (i + 1) (by omega)))⟩⟩⟩
  have q := K 4 0 (by omega)
  rw [na_fi0, na_fi0, na_fi0] at q
  exact ⟨5, q⟩
theorem x0_121 {post : SX → Prop} (h : post (cc, hc, md, 0, 30, ec, ep, 20, 0, 0, 0, (na_fi fk 0 4 1), (na_fi pn 0 4 1), (na_fi pi 0 4 0), (na_fi ln 0 4 0), pg, so, ed, he, fr, ou)) : ∃ n, wX_init_121 post cc hc md sel cs ec ep ms oc fc uc n 0 fk pn pi ln pg so ed he fr ou := by
  have K : ∀ d i, i + d = 4 → wX_init_121 post cc hc md sel cs ec ep ms oc fc uc (d + 1) (nI i) (na_fi fk 0 i 1) pn pi ln pg so ed he fr ou := by
    intro d
    induction d with
    | zero =>
      intro i hi
      obtain rfl : i = 4 := by omega
      rw [wX_init_121]
      exact br_t (by decide) (x0_144 h)
    | succ d ih =>
      intro i hi
      rw [wX_init_121]
      refine br_f (nn_nge 4 (by omega) (by decide)) ⟨vp_in_nI (by omega) (by decide), nm_r ?_ (nm_r (nI_1 i) (ih (i + 1) (by omega)))⟩
      rw [nI_clamp (by omega), na_fiS, Nat.zero_add]
  have q := K 4 0 (by omega)
  rw [na_fi0] at q
  exact ⟨5, q⟩
end
section
variable {cc hc md sel yec yep cs ms oc uc fc ych : Int32} {fk pn pi ln pg rc sn si sf tn ti tf he ou fr : Nat → Int32}
theorem y0_225 {post : SY → Prop} (h : post (cc, hc, md, sel, yec, yep, cs, ms, oc, uc, fc, ych, (na_fi fk 0 4 1), (na_fi pn 0 4 1), (na_fi pi 0 4 0), ln, pg, rc, sn, si, sf, tn, ti, tf, he, ou, fr)) : ∃ n, wY_init_225 post cc hc md sel yec yep cs ms oc uc fc ych n 0 fk pn pi ln pg rc sn si sf tn ti tf he ou fr := by
  have K : ∀ d i, i + d = 4 → wY_init_225 post cc hc md sel yec yep cs ms oc uc fc ych (d + 1) (nI i) (na_fi fk 0 i 1) (na_fi pn 0 i 1) (na_fi pi 0 i 0) ln pg rc sn si sf tn ti tf he ou fr := by
    intro d
    induction d with
    | zero =>
      intro i hi
      obtain rfl : i = 4 := by omega
      rw [wY_init_225]
      exact br_t (by decide) h
    | succ d ih =>
      intro i hi
      rw [wY_init_225]
      have vi : vp_in (nI i) 4 := vp_in_nI (by omega) (by decide)
      have ci : (nI i).toNatClampNeg = i := nI_clamp (by omega)
      have e : ∀ (f : Nat → Int32) (w : Int32), upd (na_fi f 0 i w) (nI i).toNatClampNeg w = na_fi f 0 (i + 1) w := fun f w => by rw [ci, na_fiS, Nat.zero_add]
      exact br_f (nn_nge 4 (by omega) (by decide)) ⟨vi, nm_r (e fk 1) ⟨vi, nm_r (e pn 1) ⟨vi, nm_r (e pi 0) (nm_r (nI_1 i) (ih (i + 1) (by omega)))⟩⟩⟩
  have q := K 4 0 (by omega)
  rw [na_fi0, na_fi0, na_fi0] at q
  exact ⟨5, q⟩
end
theorem i_vc0 (k0 : Int32) (k1 : Int32) (k2 : Int32) : wpX_init (fun u => wpY_init (fun v => i_Rel 3 u v) k0 k1 k2) k0 k1 k2 := by
  obtain ⟨C, hC1, hC2, hC⟩ := ni_cl k0 8 32 (by omega) (by omega)
  obtain ⟨H, hH1, hH2, hH⟩ := ni_cl k1 8 32 (by omega) (by omega)
  obtain ⟨D, hD1, hD2, hD⟩ := ni_cl k2 1 8 (by omega) (by omega)
  have hfi : ∀ (w : Int32) (j : Nat), j < 4 → na_fi (fun _ => (0 : Int32)) 0 4 w j = w := fun w j hj => na_fiI (by omega)
  unfold wpX_init
  refine xs_clamp hC (xs_clamp hH (xs_clamp hD (x0_121 ?_)))
  unfold wpY_init
  refine hC (fun z => wY_init_167 _ k1 k2 z 0 0 0 0 0 (-1) 30 20 0 0 0 0 (fun _ => 0) (fun _ => 0) (fun _ => 0) (fun _ => 0) (fun _ => 0) (fun _ => 0) (fun _ => 0) (fun _ => 0) (fun _ => 0) (fun _ => 0) (fun _ => 0) (fun _ => 0) (fun _ => 0) (fun _ => 0) (fun _ => 0)) ?_
  unfold wY_init_167
  refine hH (fun z => wY_init_194 _ k2 z (nI C) 0 0 0 0 (-1) 30 20 0 0 0 0 (fun _ => 0) (fun _ => 0) (fun _ => 0) (fun _ => 0) (fun _ => 0) (fun _ => 0) (fun _ => 0) (fun _ => 0) (fun _ => 0) (fun _ => 0) (fun _ => 0) (fun _ => 0) (fun _ => 0) (fun _ => 0) (fun _ => 0)) ?_
  unfold wY_init_194
  refine hD (fun z => ∃ n225 : Nat, wY_init_225 _ (nI C) (nI H) z 0 0 (-1) 30 20 0 0 0 0 n225 0 (fun _ => 0) (fun _ => 0) (fun _ => 0) (fun _ => 0) (fun _ => 0) (fun _ => 0) (fun _ => 0) (fun _ => 0) (fun _ => 0) (fun _ => 0) (fun _ => 0) (fun _ => 0) (fun _ => 0) (fun _ => 0) (fun _ => 0)) (y0_225 ?_)
  rw [ni_z]
  refine ni_mk (O := 0) (F := 0) (U := 0) (s := 0) (L := fun _ => 0) ⟨⟨hC1, hC2, hH2, hD1, hD2, by omega⟩, ⟨fun j hj => Or.inr (hfi 1 j hj), fun j hj => Or.inr (hfi 1 j hj), fun j hj => Or.inl rfl⟩, fun j hj => ⟨rfl, Nat.zero_le _⟩, fun b hb p hp => absurd hp (Nat.not_lt_zero _), nv_M0, Or.inl rfl, fun z => absurd z (by decide)⟩
end
