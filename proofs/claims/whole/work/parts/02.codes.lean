/-! codes of a triple: n + 2 i + 8 F -/
theorem nc_or (a b : Nat) : nI a ||| nI b = nI (a ||| b) := by
  apply Int32.toBitVec_inj.1
  show BitVec.ofNat 32 a ||| BitVec.ofNat 32 b = BitVec.ofNat 32 (a ||| b)
  apply BitVec.eq_of_getLsbD_eq
  intro i hi
  simp [hi]
def nc_jn (h c : Nat) : Nat := (h % 2 ||| c % 2) + 2 * (if h / 2 % 4 = c / 2 % 4 then h / 2 % 4 else 2) + 8 * (h / 8 &&& c / 8)
def nc_g (c : Nat) : Nat := (1 - c % 2) + (if c / 2 % 4 = 2 then 0 else 1) + (c / 8 % 2 + c / 16 % 2 + c / 32 % 2 + c / 64 % 2)
def nc_ok (c : Nat) : Prop := c < 128 ∧ c / 2 % 4 < 3
theorem nc_t1 : ∀ h, h < 128 → ∀ c, c < 128 → h / 2 % 4 < 3 → c / 2 % 4 < 3 → nc_jn h c < 128 ∧ nc_jn h c / 2 % 4 < 3 := by decide +kernel
theorem nc_t2 : ∀ h, h < 128 → ∀ c, c < 128 → h / 2 % 4 < 3 → c / 2 % 4 < 3 → nc_g (nc_jn h c) ≤ nc_g h ∧ (nc_jn h c = h ∨ nc_g (nc_jn h c) < nc_g h) := by decide +kernel
theorem nc_t3 : ∀ h, h < 128 → ∀ c, c < 128 → h / 2 % 4 < 3 → c / 2 % 4 < 3 → (((h ||| c) &&& 1) ||| (if h &&& 6 = c &&& 6 then h &&& 6 else 4)) ||| (h &&& c &&& 120) = nc_jn h c := by decide +kernel
theorem nc_t4 : ∀ h, h < 128 → ∀ c, c < 128 → h / 2 % 4 < 3 → c / 2 % 4 < 3 → nc_jn h c % 2 = (if h % 2 ≤ c % 2 then c % 2 else h % 2) ∧ nc_jn h c / 2 % 4 = (if h / 2 % 4 = c / 2 % 4 then h / 2 % 4 else 2) ∧ nc_jn h c / 8 = (h / 8 &&& c / 8) := by decide +kernel
theorem nc_t5 : ∀ c, c < 128 → nc_jn c c = c ∧ nc_g c ≤ 6 := by decide +kernel
/-- the pure join of the component -/
def nc_xj (h c : Int32) : Int32 := if h = -1 then c else if h &&& 6 = c &&& 6 then ((h ||| c) &&& 1) ||| (h &&& 6) ||| (h &&& c &&& 120) else ((h ||| c) &&& 1) ||| 4 ||| (h &&& c &&& 120)
theorem nc_m1 {c : Nat} (h : c < 2 ^ 31) : ¬ nI c = -1 := by
  intro e
  have := congrArg Int32.toInt e
  rw [nI_toInt h, show (-1 : Int32).toInt = -1 from by decide] at this
  omega
theorem nc_xjN {h c : Nat} (hh : nc_ok h) (hc : nc_ok c) : nc_xj (nI h) (nI c) = nI (nc_jn h c) := by
  obtain ⟨h1, h2⟩ := hh
  obtain ⟨c1, c2⟩ := hc
  have T := nc_t3 h h1 c c1 h2 c2
  have a6 : nI h &&& 6 = nI (h &&& 6) := nx_and h 6
  have b6 : nI c &&& 6 = nI (c &&& 6) := nx_and c 6
  have o1 : (nI h ||| nI c) &&& 1 = nI ((h ||| c) &&& 1) := by rw [nc_or]; exact nx_and _ 1
  have k1 : nI h &&& nI c &&& 120 = nI (h &&& c &&& 120) := by rw [nx_and]; exact nx_and _ 120
  have l1 : h &&& 6 ≤ 6 := Nat.and_le_right
  have l2 : c &&& 6 ≤ 6 := Nat.and_le_right
  unfold nc_xj
  rw [if_neg (nc_m1 (by omega)), a6, b6, o1, k1]
  by_cases e : h &&& 6 = c &&& 6
  · rw [if_pos e] at T
    rw [if_pos (congrArg nI e), nc_or, nc_or, T]
  · rw [if_neg e] at T
    rw [if_neg (fun z => e ((nI_eq (by omega) (by omega)).mp z)), show (4 : Int32) = nI 4 from rfl, nc_or, nc_or, T]
theorem nc_xjF (c : Int32) : nc_xj (-1) c = c := if_pos rfl
/-- what the reference keeps beside a code -/
def nc_cr (s n i f : Int32) (c : Nat) : Prop := nc_ok c ∧ s = nI c ∧ n = nI (c % 2) ∧ i = nI (c / 2 % 4) ∧ f = nI (c / 8)
def nc_yn (z s t : Int32) : Int32 := if z = 0 then (if s ≤ t then t else s) else t
def nc_yi (z s t : Int32) : Int32 := if z = 0 then (if s = t then s else 2) else t
def nc_yf (z s t : Int32) : Int32 := if z = 0 then s &&& t else t
theorem nc_crj {s n i f s' n' i' f' : Int32} {h c : Nat} (H : nc_cr s n i f h) (C : nc_cr s' n' i' f' c) : nc_cr (nc_xj s s') (nc_yn 0 n n') (nc_yi 0 i i') (nc_yf 0 f f') (nc_jn h c) := by
  obtain ⟨ho, rfl, rfl, rfl, rfl⟩ := H
  obtain ⟨co, rfl, rfl, rfl, rfl⟩ := C
  have T := nc_t4 h ho.1 c co.1 ho.2 co.2
  have h3 := ho.2
  have c3 := co.2
  refine ⟨nc_t1 h ho.1 c co.1 ho.2 co.2, nc_xjN ho co, ?_, ?_, ?_⟩
  · unfold nc_yn
    rw [if_pos rfl, T.1]
    by_cases e : h % 2 ≤ c % 2
    · rw [if_pos (nI_le e (by omega)), if_pos e]
    · rw [if_neg (nI_ge (by omega) (by omega)), if_neg e]
  · unfold nc_yi
    rw [if_pos rfl, T.2.1]
    by_cases e : h / 2 % 4 = c / 2 % 4
    · rw [if_pos (congrArg nI e), if_pos e]
    · rw [if_neg (fun z => e ((nI_eq (by omega) (by omega)).mp z)), if_neg e]
      rfl
  · unfold nc_yf
    rw [if_pos rfl, nx_and, T.2.2]
theorem nc_crf {s n i f : Int32} {s' n' i' f' : Int32} {c : Nat} (hs : s = -1) (C : nc_cr s' n' i' f' c) : nc_cr (nc_xj s s') (nc_yn 1 n n') (nc_yi 1 i i') (nc_yf 1 f f') c := by
  subst hs
  rw [nc_xjF, show nc_yn 1 n n' = n' from if_neg (by decide), show nc_yi 1 i i' = i' from if_neg (by decide), show nc_yf 1 f f' = f' from if_neg (by decide)]
  exact C
/-- equal parts, equal code -/
theorem nc_parts {h c : Nat} : h = c ↔ (h % 2 = c % 2 ∧ h / 2 % 4 = c / 2 % 4 ∧ h / 8 = c / 8) := by
  constructor
  · rintro rfl; exact ⟨rfl, rfl, rfl⟩
  · rintro ⟨a, b, d⟩; omega
theorem nc_same {s n i f s' n' i' f' : Int32} {h c : Nat} (H : nc_cr s n i f h) (C : nc_cr s' n' i' f' c) : s' = s ↔ (n' = n ∧ i' = i ∧ f' = f) := by
  obtain ⟨⟨h1, h2⟩, rfl, rfl, rfl, rfl⟩ := H
  obtain ⟨⟨c1, c2⟩, rfl, rfl, rfl, rfl⟩ := C
  rw [nI_eq (by omega) (by omega), nI_eq (by omega) (by omega), nI_eq (by omega) (by omega), nI_eq (by omega) (by omega)]
  exact nc_parts
/-- how far a code may still rise -/
def nc_gI (s : Int32) : Nat := if s = -1 then 7 else nc_g s.toNatClampNeg
theorem nc_gN {c : Nat} (h : c < 128) : nc_gI (nI c) = nc_g c := by
  unfold nc_gI
  rw [if_neg (nc_m1 (by omega)), nI_clamp (by omega)]
theorem nc_gF : nc_gI (-1) = 7 := if_pos rfl
/-- the edge functions, a code at a time -/
theorem nc_e1 {c : Nat} : nI c &&& 1 = nI (c % 2) := by
  show nI c &&& nI 1 = _
  rw [nx_and, Nat.and_one_is_mod]
theorem nc_e6 : ∀ c, c < 128 → (nI c &&& 6) / 2 = nI (c / 2 % 4) := by decide +kernel
theorem nc_e126 : ∀ c, c < 128 → nI c &&& 126 = nI (c - c % 2) := by decide +kernel
theorem nc_eF : ∀ f, f < 4 → ∀ c, c < 128 → nI c &&& (((8 : Int32) <<< (nI f &&& 31)) ^^^ (-1)) = nI (c % 8 + 8 * (c / 8 &&& (15 - 2 ^ f))) := by decide +kernel
theorem nc_eFy : ∀ f, f < 4 → ∀ c, c < 16 → nI c &&& (((1 : Int32) <<< (nI f &&& 31)) ^^^ (-1)) = nI (c &&& (15 - 2 ^ f)) := by decide +kernel
theorem nc_eK : ∀ f, f < 4 → ∀ c, c < 128 → ((nI c &&& ((8 : Int32) <<< (nI f &&& 31))) = 0 ↔ c / 8 / 2 ^ f % 2 = 0) := by decide +kernel
theorem nc_eKy : ∀ f, f < 4 → ∀ c, c < 16 → (((nI c >>> (nI f &&& 31)) &&& 1) = 0 ↔ c / 2 ^ f % 2 = 0) := by decide +kernel
theorem nc_eP : ∀ f, f < 4 → ∀ c, c < 128 → nI c ||| ((8 : Int32) <<< (nI f &&& 31)) = nI (c % 8 + 8 * (c / 8 ||| 2 ^ f)) := by decide +kernel
theorem nc_ePy : ∀ f, f < 4 → ∀ c, c < 16 → nI c ||| ((1 : Int32) <<< (nI f &&& 31)) = nI (c ||| 2 ^ f) := by decide +kernel
theorem nc_b1 : ∀ f, f < 4 → ∀ c, c < 16 → (c ||| 2 ^ f) < 16 ∧ (c &&& (15 - 2 ^ f)) < 16 := by decide +kernel
theorem nc_b2 : ∀ m, m < 16 → ∀ c, c < 16 → (c &&& m) < 16 := by decide +kernel
/-- a code with another set of fields -/
theorem nc_setF {c G : Nat} (h : nc_ok c) (hG : G < 16) : nc_ok (c % 8 + 8 * G) ∧ (c % 8 + 8 * G) % 2 = c % 2 ∧ (c % 8 + 8 * G) / 2 % 4 = c / 2 % 4 ∧ (c % 8 + 8 * G) / 8 = G := by
  obtain ⟨h1, h2⟩ := h
  unfold nc_ok
  omega
theorem nc_crF {s n i f : Int32} {c G : Nat} (H : nc_cr s n i f c) (hG : G < 16) : nc_cr (nI (c % 8 + 8 * G)) n i (nI G) (c % 8 + 8 * G) := by
  obtain ⟨ho, rfl, rfl, rfl, rfl⟩ := H
  have T := nc_setF ho hG
  exact ⟨T.1, rfl, by rw [T.2.1], by rw [T.2.2.1], by rw [T.2.2.2]⟩
theorem nc_crN {n i : Nat} (hn : n < 2) (hi : i < 3) : nc_cr (nI (n + 2 * i)) (nI n) (nI i) 0 (n + 2 * i) := by
  have e1 : (n + 2 * i) % 2 = n := by omega
  have e2 : (n + 2 * i) / 2 % 4 = i := by omega
  have e3 : (n + 2 * i) / 8 = 0 := by omega
  refine ⟨⟨by omega, by omega⟩, rfl, by rw [e1], by rw [e2], by rw [e3]; rfl⟩
theorem nc_cr0 {s n i f : Int32} {c : Nat} (H : nc_cr s n i f c) : nc_cr (s &&& 126) 0 i f (c - c % 2) := by
  obtain ⟨⟨h1, h2⟩, rfl, rfl, rfl, rfl⟩ := H
  have e1 : (c - c % 2) % 2 = 0 := by omega
  have e2 : (c - c % 2) / 2 % 4 = c / 2 % 4 := by omega
  have e3 : (c - c % 2) / 8 = c / 8 := by omega
  refine ⟨⟨by omega, by omega⟩, nc_e126 c h1, by rw [e1]; rfl, by rw [e2], by rw [e3]⟩
