/-! The order of chapters in the reference: bits, costs, the table of least costs. -/
def zbt (k n : Int32) : Int32 := if h : k = 0 then n else zbt (k &&& (k - 1)) (n + Int32.ofInt 1)
termination_by k.toBitVec.toNat
decreasing_by exact z_bitm rfl rfl (z_ne h)
theorem zbt_step {k n k1 k2 n' : Int32} (h : k.toInt ≠ (0 : Int32).toInt) (e1 : k1 = k - 1) (e2 : k2 = k &&& k1) (e3 : n + Int32.ofInt 1 = n') : zbt k2 n' = zbt k n := by
  have hk : k ≠ 0 := fun q => h (by rw [q])
  subst e3
  subst e1
  subst e2
  rw [zbt.eq_1 k n, dif_neg hk]
theorem zbt_z {k n : Int32} (h : k.toInt = (0 : Int32).toInt) : zbt k n = n := by
  have hk : k = 0 := Int32.toInt_inj.mp h
  rw [zbt.eq_1, dif_pos hk]
def zcost (c f t : Int32) : Int32 := zbt (c &&& (t ^^^ (-1)) &&& (((1 : Int32) <<< (f &&& 31)) ^^^ (-1))) 0
def zbit (t f : Int32) : Prop := t >>> (f &&& 31) &&& 1 = 1
def zon (t f : Int32) : Int32 := t ||| (1 : Int32) <<< (f &&& 31)
def zaLf (nf : Int32) : Int32 := (1 : Int32) <<< (nf &&& 31) - 1
def zpop (j : Nat) : Nat := (j % 2) + (j / 2 % 2) + (j / 4 % 2) + (j / 8 % 2) + (j / 16 % 2) + (j / 32 % 2) + (j / 64 % 2) + (j / 128 % 2) + (j / 256 % 2) + (j / 512 % 2)
def zbitB (j f : Nat) : Bool := decide (Int32.ofNat j >>> (Int32.ofNat f &&& 31) &&& 1 = 1)
theorem zq1 : ∀ j : Nat, j < 1024 → ∀ f : Nat, f < 10 → (j : Int) ≤ (zon (Int32.ofNat j) (Int32.ofNat f)).toInt ∧ (zon (Int32.ofNat j) (Int32.ofNat f)).toInt ≤ 1023 ∧ (zbitB j f = false → (j : Int) < (zon (Int32.ofNat j) (Int32.ofNat f)).toInt ∧ zpop (Int32.toNatClampNeg (zon (Int32.ofNat j) (Int32.ofNat f))) = zpop j + 1) := by decide +kernel
theorem zq2 : ∀ j : Nat, j < 1024 → ∀ f : Nat, f < 10 → ∀ n : Nat, n < 11 → f < n → (j : Int) ≤ (zaLf (Int32.ofNat n)).toInt → (zon (Int32.ofNat j) (Int32.ofNat f)).toInt ≤ (zaLf (Int32.ofNat n)).toInt := by decide +kernel
theorem zq3 : ∀ j : Nat, j < 1024 → ∀ n : Nat, n < 11 → (j : Int) ≤ (zaLf (Int32.ofNat n)).toInt → zpop j < n → (j : Int) < (zaLf (Int32.ofNat n)).toInt := by decide +kernel
theorem zq4 : ∀ j : Nat, j < 1024 → ∀ n : Nat, n < 11 → (j : Int) < (zaLf (Int32.ofNat n)).toInt → ∃ g : Nat, g < n ∧ zbitB j g = false := by
  have : ∀ j : Nat, j < 1024 → ∀ n : Nat, n < 11 → (j : Int) < (zaLf (Int32.ofNat n)).toInt → (List.range n).any (fun g => !zbitB j g) = true := by decide +kernel
  intro j hj n hn h
  obtain ⟨g, hg, h2⟩ := List.any_eq_true.mp (this j hj n hn h)
  exact ⟨g, List.mem_range.mp hg, by simpa using h2⟩
theorem zq5 : ∀ n : Nat, n < 11 → 0 ≤ (zaLf (Int32.ofNat n)).toInt ∧ (zaLf (Int32.ofNat n)).toInt ≤ 1023 := by decide +kernel
theorem zn_of {hi : Nat} {x : Int32} (hh : hi < 2000) (b : zB 0 hi x) : ∃ j : Nat, j ≤ hi ∧ x = Int32.ofNat j ∧ (x.toInt = (j : Int)) ∧ Int32.toNatClampNeg x = j := by
  obtain ⟨j, hj, rfl⟩ := z_nat b
  have e : (Int32.ofNat j).toInt = (j : Int) := Int32.toInt_ofNat_of_lt (by omega)
  exact ⟨j, hj, rfl, e, z_clN e⟩
theorem zon_b {t f : Int32} (bt : zB 0 1023 t) (bf : zB 0 9 f) : zB 0 1023 (zon t f) ∧ t.toInt ≤ (zon t f).toInt := by
  obtain ⟨j, hj, rfl, e, -⟩ := zn_of (hi := 1023) (by decide) bt
  obtain ⟨g, hg, rfl, e2, -⟩ := zn_of (hi := 9) (by decide) bf
  have := zq1 j (by omega) g (by omega)
  exact ⟨⟨by omega, this.2.1⟩, by omega⟩
theorem zon_u {t f : Int32} (bt : zB 0 1023 t) (bf : zB 0 9 f) (hu : ¬ zbit t f) : t.toInt < (zon t f).toInt ∧ zpop (Int32.toNatClampNeg (zon t f)) = zpop (Int32.toNatClampNeg t) + 1 := by
  obtain ⟨j, hj, rfl, e, c⟩ := zn_of (hi := 1023) (by decide) bt
  obtain ⟨g, hg, rfl, e2, -⟩ := zn_of (hi := 9) (by decide) bf
  have := (zq1 j (by omega) g (by omega)).2.2 (by unfold zbitB; exact decide_eq_false hu)
  rw [c]
  exact ⟨by omega, this.2⟩
theorem zon_l {t f nf : Int32} (bt : zB 0 1023 t) (bf : zB 0 9 f) (bn : zB 0 10 nf) (hf : f.toInt < nf.toInt) (h : t.toInt ≤ (zaLf nf).toInt) : (zon t f).toInt ≤ (zaLf nf).toInt := by
  obtain ⟨j, hj, rfl, e, c⟩ := zn_of (hi := 1023) (by decide) bt
  obtain ⟨g, hg, rfl, e2, -⟩ := zn_of (hi := 9) (by decide) bf
  obtain ⟨n, hn, rfl, e3, -⟩ := zn_of (hi := 10) (by decide) bn
  exact zq2 j (by omega) g (by omega) n (by omega) (by omega) (by omega)
theorem zaLf_lt {t nf : Int32} (bt : zB 0 1023 t) (bn : zB 0 10 nf) (h : t.toInt ≤ (zaLf nf).toInt) (hp : (zpop (Int32.toNatClampNeg t) : Int) < nf.toInt) : t.toInt < (zaLf nf).toInt := by
  obtain ⟨j, hj, rfl, e, c⟩ := zn_of (hi := 1023) (by decide) bt
  obtain ⟨n, hn, rfl, e3, -⟩ := zn_of (hi := 10) (by decide) bn
  rw [c] at hp
  have := zq3 j (by omega) n (by omega) (by omega) (by omega)
  omega
theorem zaLf_un {t nf : Int32} (bt : zB 0 1023 t) (bn : zB 0 10 nf) (h : t.toInt < (zaLf nf).toInt) : ∃ g : Int32, 0 ≤ g.toInt ∧ g.toInt < nf.toInt ∧ ¬ zbit t g := by
  obtain ⟨j, hj, rfl, e, c⟩ := zn_of (hi := 1023) (by decide) bt
  obtain ⟨n, hn, rfl, e3, -⟩ := zn_of (hi := 10) (by decide) bn
  obtain ⟨g, hg, h2⟩ := zq4 j (by omega) n (by omega) (by omega)
  have e4 : (Int32.ofNat g).toInt = (g : Int) := Int32.toInt_ofNat_of_lt (by omega)
  exact ⟨Int32.ofNat g, by omega, by omega, by unfold zbit; unfold zbitB at h2; exact of_decide_eq_false h2⟩
theorem zaLf_b {nf : Int32} (bn : zB 0 10 nf) : zB 0 1023 (zaLf nf) := by
  obtain ⟨n, hn, rfl, e3, -⟩ := zn_of (hi := 10) (by decide) bn
  exact zq5 n (by omega)
/-- the cost by f, told next behind t -/
def zco (c le : Nat → Int32) (t f : Int32) : Int32 := zcost (c (Int32.toNatClampNeg f)) f t + le (Int32.toNatClampNeg (zon t f))
def zLE (c le : Nat → Int32) (nf t : Int32) : Prop := ∃ f : Int32, 0 ≤ f.toInt ∧ f.toInt < nf.toInt ∧ ¬ zbit t f ∧ zco c le t f = le (Int32.toNatClampNeg t)
theorem zcl_ne {x y : Int32} (hx : 0 ≤ x.toInt) (h : x.toInt < y.toInt) : Int32.toNatClampNeg y ≠ Int32.toNatClampNeg x := by
  rw [Int32.toNatClampNeg, Int32.toNatClampNeg]
  omega
theorem zLE.up {c le le' : Nat → Int32} {nf s q b : Int32} (h : zLE c le nf q) (e : le' = upd le (Int32.toNatClampNeg s) b) (bn : zB 0 10 nf) (hs : 0 ≤ s.toInt) (bq : zB 0 1023 q) (hq : s.toInt < q.toInt) : zLE c le' nf q := by
  obtain ⟨f, h1, h2, h3, h4⟩ := h
  have b9 := zon_b bq (⟨h1, by have := bn.2; omega⟩ : zB 0 9 f)
  refine ⟨f, h1, h2, h3, ?_⟩
  unfold zco at h4 ⊢
  rw [e, z_upn (zcl_ne hs hq), z_upn (zcl_ne hs (by omega))]
  exact h4
theorem zLE.new {c le le' : Nat → Int32} {nf s b : Int32} (e : le' = upd le (Int32.toNatClampNeg s) b) (bn : zB 0 10 nf) (bs : zB 0 1023 s) (h : ∃ g : Int32, 0 ≤ g.toInt ∧ g.toInt < nf.toInt ∧ ¬ zbit s g ∧ zco c le s g = b) : zLE c le' nf s := by
  obtain ⟨f, h1, h2, h3, h4⟩ := h
  have b9 := zon_u bs (⟨h1, by have := bn.2; omega⟩ : zB 0 9 f) h3
  refine ⟨f, h1, h2, h3, ?_⟩
  unfold zco at h4 ⊢
  rw [e, z_upe, z_upn (zcl_ne bs.1 b9.1)]
  exact h4
def zIN (c le : Nat → Int32) (s f b : Int32) : Prop := (∃ g : Int32, 0 ≤ g.toInt ∧ g.toInt < f.toInt ∧ ¬ zbit s g ∧ zco c le s g = b) ∨ (b.toInt = -1 ∧ ∀ g : Int32, 0 ≤ g.toInt → g.toInt < f.toInt → zbit s g)
theorem zIN.z {c le : Nat → Int32} {s : Int32} : zIN c le s 0 (-1) := Or.inr ⟨by decide, fun g h1 h2 => absurd h2 (by have : (0 : Int32).toInt = 0 := (by decide); omega)⟩
theorem zIN.skip {c le : Nat → Int32} {s f f' b : Int32} (h : zIN c le s f b) (hb : zbit s f) (hf : f'.toInt = f.toInt + 1) : zIN c le s f' b := by
  rcases h with ⟨g, h1, h2, h3⟩ | ⟨h1, h2⟩
  · exact Or.inl ⟨g, h1, by omega, h3⟩
  · refine Or.inr ⟨h1, fun g q1 q2 => ?_⟩
    by_cases c9 : g.toInt = f.toInt
    · rw [Int32.toInt_inj.mp c9]
      exact hb
    · exact h2 g q1 (by omega)
theorem zIN.one {c le : Nat → Int32} {s f f' b : Int32} (h0 : 0 ≤ f.toInt) (hu : ¬ zbit s f) (e : zco c le s f = b) (hf : f'.toInt = f.toInt + 1) : zIN c le s f' b := Or.inl ⟨f, h0, by omega, hu, e⟩
theorem zIN.keep {c le : Nat → Int32} {s f f' b : Int32} (h : zIN c le s f b) (hb : b.toInt ≠ -1) (hf : f'.toInt = f.toInt + 1) : zIN c le s f' b := by
  rcases h with ⟨g, h1, h2, h3⟩ | ⟨h1, -⟩
  · exact Or.inl ⟨g, h1, by omega, h3⟩
  · exact absurd h1 hb
theorem zIN.min {c le : Nat → Int32} {s f f' b b1 b2 : Int32} (h : zIN c le s f b) (hb : b.toInt ≠ -1) (h0 : 0 ≤ f.toInt) (hu : ¬ zbit s f) (e : zco c le s f = b1) (hm : b2.toInt = b.toInt ∨ b2.toInt = b1.toInt) (hf : f'.toInt = f.toInt + 1) : zIN c le s f' b2 := by
  rcases hm with hm | hm
  · rw [Int32.toInt_inj.mp hm]
    exact h.keep hb hf
  · rw [Int32.toInt_inj.mp hm]
    exact zIN.one h0 hu e hf
theorem zIN.end {c le : Nat → Int32} {s f b nf : Int32} (h : zIN c le s f b) (bs : zB 0 1023 s) (bn : zB 0 10 nf) (hs : s.toInt < (zaLf nf).toInt) (hf : nf.toInt ≤ f.toInt) (hf2 : f.toInt ≤ nf.toInt) : ∃ g : Int32, 0 ≤ g.toInt ∧ g.toInt < nf.toInt ∧ ¬ zbit s g ∧ zco c le s g = b := by
  rcases h with ⟨g, h1, h2, h3⟩ | ⟨h1, h2⟩
  · exact ⟨g, h1, by omega, h3⟩
  · obtain ⟨g, g1, g2, g3⟩ := zaLf_un bs bn hs
    exact absurd (h2 g g1 (by omega)) g3
