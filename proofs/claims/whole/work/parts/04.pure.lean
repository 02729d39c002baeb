/-! masks of field kinds -/
def ne_xf (fk ed : Nat → Int32) : Nat → Nat → Int32
  | 0 => ed
  | f + 1 => if fk f = 1 then na_mk (ne_xf fk ed f) (((8 : Int32) <<< (nI f &&& 31)) ^^^ (-1)) 8 else ne_xf fk ed f
def ne_ym (fk : Nat → Int32) : Nat → Int32
  | 0 => 0
  | f + 1 => if fk f = 0 then ne_ym fk f ||| ((1 : Int32) <<< (nI f &&& 31)) else ne_ym fk f
def ne_K (fk : Nat → Int32) : Nat → Nat
  | 0 => 15
  | f + 1 => if fk f = 1 then ne_K fk f &&& (15 - 2 ^ f) else ne_K fk f
def ne_M (fk : Nat → Int32) : Nat → Nat
  | 0 => 0
  | f + 1 => if fk f = 0 then ne_M fk f ||| 2 ^ f else ne_M fk f
theorem ne_K16 (fk : Nat → Int32) : ∀ k, ne_K fk k < 16
  | 0 => (by decide : (15 : Nat) < 16)
  | k + 1 => by
    rw [ne_K]
    have := ne_K16 fk k
    split
    · exact Nat.lt_of_le_of_lt Nat.and_le_left this
    · exact this
theorem ne_M16 (fk : Nat → Int32) : ∀ k, k ≤ 4 → ne_M fk k < 16
  | 0 => fun _ => (by decide : (0 : Nat) < 16)
  | k + 1 => fun h => by
    rw [ne_M]
    have := ne_M16 fk k (by omega)
    split
    · exact (nc_b1 k (by omega) _ this).1
    · exact this
theorem ne_KM {fk : Nat → Int32} (h : ∀ j, j < 4 → fk j = 0 ∨ fk j = 1) : ne_K fk 4 = ne_M fk 4 := by
  rcases h 0 (by omega) with h0 | h0 <;> rcases h 1 (by omega) with h1 | h1 <;> rcases h 2 (by omega) with h2 | h2 <;> rcases h 3 (by omega) with h3 | h3 <;> simp only [ne_K, ne_M, h0, h1, h2, h3] <;> decide
theorem ne_ymM (fk : Nat → Int32) : ∀ k, k ≤ 4 → ne_ym fk k = nI (ne_M fk k)
  | 0 => fun _ => rfl
  | k + 1 => fun h => by
    rw [ne_ym, ne_M]
    have ih := ne_ymM fk k (by omega)
    split
    · rw [ih, nc_ePy k (by omega) _ (ne_M16 fk k (by omega))]
    · exact ih
theorem ne_15 : ∀ c, c < 16 → c &&& 15 = c := by decide +kernel
theorem ne_xfC (fk ed : Nat → Int32) {l c : Nat} (hl : l < 8) (hc : c < 128) (e : ed l = nI c) : ∀ k, k ≤ 4 → ne_xf fk ed k l = nI (c % 8 + 8 * (c / 8 &&& ne_K fk k))
  | 0 => fun _ => by
    show ed l = _
    rw [e]
    rw [ne_K]
    rw [ne_15 _ (by omega)]
    exact congrArg nI (by omega)
  | k + 1 => fun h => by
    rw [ne_xf, ne_K]
    have ih := ne_xfC fk ed hl hc e k (by omega)
    split
    · have hb : (c / 8 &&& ne_K fk k) < 16 := Nat.lt_of_le_of_lt Nat.and_le_left (by omega)
      rw [na_mkI hl, ih, nc_eF k (by omega) _ (by omega), show (c % 8 + 8 * (c / 8 &&& ne_K fk k)) % 8 = c % 8 from by omega, show (c % 8 + 8 * (c / 8 &&& ne_K fk k)) / 8 = (c / 8 &&& ne_K fk k) from by omega, Nat.and_assoc]
    · exact ih
theorem ne_new {fk ed tn ti tf : Nat → Int32} (h : ∀ j, j < 4 → fk j = 0 ∨ fk j = 1) (hE : nr_er ed tn ti tf) : nr_er (ne_xf fk ed 4) tn ti (na_mk tf (ne_ym fk 4) 8) := by
  intro l hl
  obtain ⟨c, C⟩ := hE l hl
  have hM := ne_M16 fk 4 (by omega)
  have hc := C.1.1
  have hb : (c / 8 &&& ne_M fk 4) < 16 := Nat.lt_of_le_of_lt Nat.and_le_left (by omega)
  rw [ne_xfC fk ed hl hc C.2.1 4 (by omega), na_mkI hl, ne_ymM fk 4 (by omega), ne_KM h, C.2.2.2.2, nx_and]
  exact ⟨_, nc_crF C hb⟩
theorem ne_all4 (P : Nat → Prop) : (∀ f, f < 4 → P f) ↔ P 0 ∧ P 1 ∧ P 2 ∧ P 3 := by
  constructor
  · intro h
    exact ⟨h 0 (by omega), h 1 (by omega), h 2 (by omega), h 3 (by omega)⟩
  · rintro ⟨a, b, c, d⟩ f hf
    match f, hf with
    | 0, _ => exact a
    | 1, _ => exact b
    | 2, _ => exact c
    | 3, _ => exact d
theorem ne_endM {fk : Nat → Int32} (h : ∀ j, j < 4 → fk j = 0 ∨ fk j = 1) : ∀ g, g < 16 → ((g &&& ne_M fk 4 = ne_M fk 4) ↔ ∀ f, f < 4 → (fk f = 0 → g / 2 ^ f % 2 ≠ 0)) := by
  intro g hg
  refine Iff.trans ?_ (ne_all4 (fun f => fk f = 0 → g / 2 ^ f % 2 ≠ 0)).symm
  revert g
  rcases h 0 (by omega) with h0 | h0 <;> rcases h 1 (by omega) with h1 | h1 <;> rcases h 2 (by omega) with h2 | h2 <;> rcases h 3 (by omega) with h3 | h3 <;> simp only [ne_M, h0, h1, h2, h3] <;> decide +kernel
theorem ne_end {fk : Nat → Int32} (h : ∀ j, j < 4 → fk j = 0 ∨ fk j = 1) {c : Nat} (hc : c < 128) : (nI (c / 8) &&& ne_ym fk 4 = ne_ym fk 4) ↔ ∀ f, f < 4 → (fk f = 0 → c / 8 / 2 ^ f % 2 ≠ 0) := by
  have hM := ne_M16 fk 4 (by omega)
  have hb : (c / 8 &&& ne_M fk 4) < 16 := Nat.lt_of_le_of_lt Nat.and_le_left (by omega)
  rw [ne_ymM fk 4 (by omega), nx_and, nI_eq (by omega) (by omega)]
  exact ne_endM h _ (by omega)
/-! forgetting one field, putting one field -/
theorem ne_fgt {ed tn ti tf : Nat → Int32} {f : Nat} (hf : f < 4) (hE : nr_er ed tn ti tf) : nr_er (na_mk ed (((8 : Int32) <<< (nI f &&& 31)) ^^^ (-1)) 8) tn ti (na_mk tf (((1 : Int32) <<< (nI f &&& 31)) ^^^ (-1)) 8) := by
  intro l hl
  obtain ⟨c, C⟩ := hE l hl
  have hc := C.1.1
  rw [na_mkI hl, na_mkI hl, C.2.1, C.2.2.2.2, nc_eF f hf _ hc, nc_eFy f hf _ (by omega)]
  exact ⟨_, nc_crF C (nc_b1 f hf _ (by omega)).2⟩
theorem ne_put {s n i F : Int32} {f c : Nat} (hf : f < 4) (C : nc_cr s n i F c) : ∃ d, nc_cr (s ||| ((8 : Int32) <<< (nI f &&& 31))) n i (F ||| ((1 : Int32) <<< (nI f &&& 31))) d := by
  have hc := C.1.1
  refine ⟨c % 8 + 8 * (c / 8 ||| 2 ^ f), ?_⟩
  have e1 : s ||| ((8 : Int32) <<< (nI f &&& 31)) = nI (c % 8 + 8 * (c / 8 ||| 2 ^ f)) := by
    rw [C.2.1]
    exact nc_eP f hf _ hc
  have e2 : F ||| ((1 : Int32) <<< (nI f &&& 31)) = nI (c / 8 ||| 2 ^ f) := by
    rw [C.2.2.2.2]
    exact nc_ePy f hf _ (by omega)
  rw [e1, e2]
  exact nc_crF C (nc_b1 f hf (c / 8) (by omega)).1
theorem ne_kn {s n i F : Int32} {f c : Nat} (hf : f < 4) (C : nc_cr s n i F c) : ((s &&& ((8 : Int32) <<< (nI f &&& 31))) = 0 ↔ ((F >>> (nI f &&& 31)) &&& 1) = 0) := by
  have hc := C.1.1
  rw [C.2.1, C.2.2.2.2, nc_eK f hf c hc, nc_eKy f hf _ (by omega)]
theorem ne_nu {s n i F : Int32} {c : Nat} (C : nc_cr s n i F c) : s &&& 1 = n ∧ (n = 0 ∨ n = 1) := by
  rw [C.2.1, C.2.2.1, nc_e1]
  refine ⟨rfl, ?_⟩
  have : c % 2 = 0 ∨ c % 2 = 1 := by omega
  rcases this with e | e <;> rw [e]
  · exact Or.inl rfl
  · exact Or.inr rfl
theorem ne_ini {s n i F : Int32} {c : Nat} (C : nc_cr s n i F c) : (s &&& 6) / 2 = i ∧ (i = 0 ∨ i = 1 ∨ i = 2) := by
  have hc := C.1.1
  have h3 := C.1.2
  rw [C.2.1, C.2.2.2.1, nc_e6 c hc]
  refine ⟨rfl, ?_⟩
  have : c / 2 % 4 = 0 ∨ c / 2 % 4 = 1 ∨ c / 2 % 4 = 2 := by omega
  rcases this with e | e | e <;> rw [e]
  · exact Or.inl rfl
  · exact Or.inr (Or.inl rfl)
  · exact Or.inr (Or.inr rfl)
theorem ne_mkc {n i : Int32} (hn : n = 0 ∨ n = 1) (hi : i = 0 ∨ i = 1 ∨ i = 2) : ∃ c, nc_cr (n + 2 * i) n i 0 c := by
  rcases hn with rfl | rfl <;> rcases hi with rfl | rfl | rfl
  · exact ⟨_, nc_crN (n := 0) (i := 0) (by omega) (by omega)⟩
  · exact ⟨_, nc_crN (n := 0) (i := 1) (by omega) (by omega)⟩
  · exact ⟨_, nc_crN (n := 0) (i := 2) (by omega) (by omega)⟩
  · exact ⟨_, nc_crN (n := 1) (i := 0) (by omega) (by omega)⟩
  · exact ⟨_, nc_crN (n := 1) (i := 1) (by omega) (by omega)⟩
  · exact ⟨_, nc_crN (n := 1) (i := 2) (by omega) (by omega)⟩
/-! the measure of a block -/
def nr_mu (so : Nat → Int32) (b : Nat) : Nat := na_sm (fun j => nc_gI (so (b * 264 + j))) 264
theorem nc_g7 (s : Int32) : nc_gI s ≤ 7 := by
  unfold nc_gI
  split
  · exact Nat.le_refl 7
  · generalize s.toNatClampNeg = c
    unfold nc_g
    split <;> omega
theorem nr_muB (so : Nat → Int32) (b : Nat) : nr_mu so b ≤ 1848 := na_smB (c := 7) (fun j => nc_g7 _) 264
theorem nr_muG {b : Nat} {so rc sn si sf so' rc' sn' si' sf' : Nat → Int32} {r : Int32} (h : nr_go b so rc sn si sf so' rc' sn' si' sf' r) : nr_mu so' b ≤ nr_mu so b ∧ (r = 1 → nr_mu so' b < nr_mu so b) := by
  obtain ⟨_, _, h3, h4, _, _⟩ := h
  refine ⟨na_smL (fun j => h3 _) 264, fun e => na_smS (fun j => h3 _) 264 ?_⟩
  obtain ⟨j, h1, h2, h5⟩ := h4 e
  refine ⟨j - b * 264, by omega, ?_⟩
  rw [show b * 264 + (j - b * 264) = j from by omega]
  exact h5
/-! what holds of the program and of the machine -/
def nv_vl (O : Nat) (x : Int32) : Prop := x = -1 ∨ ∃ q, q < O ∧ x = nI q
def nv_in (o A B K : Nat) : Prop := o < 10 ∧ A < 33 ∧ B < 33 ∧ K < 8 ∧ (o ≠ 7 → A < 8) ∧ (o = 1 ∨ o = 3 → B < 8) ∧ (o = 2 → 1 ≤ B ∧ B < 4) ∧ (o = 4 → B < 4) ∧ (o = 3 → K < 4)
def nv_pg (L : Nat → Nat) (pg : Nat → Int32) : Prop := ∀ b, b < 4 → ∀ p, p < L b → ∃ o A B K, pg ((b * 32 + p) * 4) = nI o ∧ pg ((b * 32 + p) * 4 + 1) = nI A ∧ pg ((b * 32 + p) * 4 + 2) = nI B ∧ pg ((b * 32 + p) * 4 + 3) = nI K ∧ nv_in o A B K
def nv_de (fk pn pi : Nat → Int32) : Prop := (∀ j, j < 4 → fk j = 0 ∨ fk j = 1) ∧ (∀ j, j < 4 → pn j = 0 ∨ pn j = 1) ∧ (∀ j, j < 4 → pi j = 0 ∨ pi j = 1 ∨ pi j = 2)
def nv_ln (L : Nat → Nat) (C : Nat) (ln : Nat → Int32) : Prop := ∀ j, j < 4 → ln j = nI (L j) ∧ L j ≤ C
def nv_fr (O k : Nat) (fr : Nat → Int32) : Prop := (∀ s, s < 8 → nv_vl O (fr (k * 12 + s))) ∧ (∃ b, b < 4 ∧ fr (k * 12 + 8) = nI b) ∧ (∃ p, p < 33 ∧ fr (k * 12 + 9) = nI p) ∧ (0 < k → (∃ d, d < 8 ∧ fr (k * 12 + 10) = nI d) ∧ ∃ q, q < O ∧ fr (k * 12 + 11) = nI q)
def nv_M (O F U H D : Nat) (hp fr : Nat → Int32) : Prop := O ≤ H ∧ F ≤ D ∧ U ≤ 16 ∧ (∀ j, j < O * 4 → nv_vl O (hp j)) ∧ ∀ k, k < F → nv_fr O k fr
def nv_C (C H D : Nat) (cc hc md : Int32) : Prop := cc = nI C ∧ hc = nI H ∧ md = nI D ∧ 8 ≤ C ∧ C ≤ 32 ∧ H ≤ 32 ∧ 1 ≤ D ∧ D ≤ 8
def nr_S (B : Nat) (L : Nat → Nat) (so rc sn si sf : Nat → Int32) : Prop := ∀ b, b < B → ∀ p, p ≤ L b → nr_pt so rc sn si sf (b * 33 + p)
theorem nv_vlm {O O' : Nat} (h : O ≤ O') {x : Int32} (hx : nv_vl O x) : nv_vl O' x := by
  rcases hx with e | ⟨q, hq, e⟩
  · exact Or.inl e
  · exact Or.inr ⟨q, by omega, e⟩
theorem nv_lt {O : Nat} {x : Int32} (hO : O ≤ 2 ^ 30) (h : nv_vl O x) : (x < 0 ↔ x = -1) := by
  rcases h with rfl | ⟨q, hq, rfl⟩
  · exact ⟨fun _ => rfl, fun _ => by decide⟩
  · exact ⟨fun e => absurd e (nI_pos (by omega)), fun e => absurd e (nc_m1 (by omega))⟩
