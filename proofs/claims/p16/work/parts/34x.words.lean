/-! The order of chapters, one of a table of calls: the class's bits beside the reference's. -/
def zbc1 (v : Int32) : Int32 := v - ((v.toUInt32 >>> ((1 : Int32).toUInt32 &&& Int32.toUInt32 31)).toInt32 &&& 1431655765)
def zbc2 (v : Int32) : Int32 := (v &&& 858993459) + ((v.toUInt32 >>> ((2 : Int32).toUInt32 &&& Int32.toUInt32 31)).toInt32 &&& 858993459)
def zbc3 (v : Int32) : Int32 := (v + (v.toUInt32 >>> ((4 : Int32).toUInt32 &&& Int32.toUInt32 31)).toInt32) &&& 252645135
def zbc4 (v : Int32) : Int32 := v + (v.toUInt32 >>> ((8 : Int32).toUInt32 &&& Int32.toUInt32 31)).toInt32
def zbc5 (v : Int32) : Int32 := v + (v.toUInt32 >>> ((16 : Int32).toUInt32 &&& Int32.toUInt32 31)).toInt32
def zbc (v : Int32) : Int32 := zbc5 (zbc4 (zbc3 (zbc2 (zbc1 v)))) &&& 63
theorem zbc_pop : ∀ j : Nat, j < 1024 → zbc (Int32.ofNat j) = Int32.ofNat (zpop j) := by decide +kernel
theorem zbt_dn : ∀ j : Nat, j < 1024 → j ≠ 0 → (Int32.ofNat j &&& (Int32.ofNat j - 1)) = Int32.ofNat (j &&& (j - 1)) ∧ zpop (j &&& (j - 1)) + 1 = zpop j ∧ (j &&& (j - 1)) < j ∧ Int32.ofNat j ≠ 0 := by decide +kernel
theorem zbt_one : ∀ m : Nat, m < 11 → Int32.ofInt 1 + Int32.ofNat m = Int32.ofNat (m + 1) := by decide
theorem zpop_le : ∀ j : Nat, j < 1024 → zpop j < 11 := by decide +kernel
theorem zbt_pop (j : Nat) : j < 1024 → ∀ n : Int32, zbt (Int32.ofNat j) n = n + Int32.ofNat (zpop j) := by
  induction j using Nat.strongRecOn with
  | _ j ih =>
    intro hj n
    by_cases c : j = 0
    · subst c
      rw [show Int32.ofNat 0 = 0 from rfl, zbt_z (show (0 : Int32).toInt = (0 : Int32).toInt from rfl), show zpop 0 = 0 from rfl]
      exact (Int32.add_zero n).symm
    · obtain ⟨h1, h2, h3, h4⟩ := zbt_dn j hj c
      have h5 := zpop_le _ (show (j &&& (j - 1)) < 1024 by omega)
      rw [zbt.eq_1, dif_neg h4, h1, ih _ h3 (by omega), Int32.add_assoc, zbt_one _ h5, h2]
theorem zbc_bt {x : Int32} (h : zB 0 1023 x) : zbc x = zbt x 0 := by
  obtain ⟨j, hj, rfl, -, -⟩ := zn_of (hi := 1023) (by decide) h
  rw [zbc_pop j (by omega), zbt_pop j (by omega), Int32.zero_add]
theorem zand_l {x y : Int32} (h : zB 0 1023 x) : zB 0 1023 (x &&& y) := by
  have h1 := h.1
  have h2 := h.2
  have e0 : x.toInt = x.toBitVec.toInt := rfl
  have e1 : (x &&& y).toInt = (x &&& y).toBitVec.toInt := rfl
  have hx : x.toBitVec.toNat ≤ 1023 := by
    rw [e0, BitVec.toInt_eq_toNat_cond] at h1 h2
    have := x.toBitVec.isLt
    split at h1 <;> omega
  have hz : (x &&& y).toBitVec.toNat ≤ 1023 := by
    rw [Int32.toBitVec_and, BitVec.toNat_and]
    exact Nat.le_trans Nat.and_le_left hx
  have e2 : (x &&& y).toInt = ((x &&& y).toBitVec.toNat : Int) := by
    rw [e1, BitVec.toInt_eq_toNat_cond, if_pos (by omega)]
  exact ⟨by omega, by omega⟩
theorem zm1 : ∀ i : Nat, i < 32 → ((-1 : Int32)).toBitVec.getLsbD i = true := by decide
theorem zmask (c t s : Int32) : c &&& ((t ||| s) ^^^ (-1)) = c &&& (t ^^^ (-1)) &&& (s ^^^ (-1)) := by
  apply Int32.toBitVec_inj.mp
  apply BitVec.eq_of_getLsbD_eq
  intro i hi
  have h := zm1 i hi
  simp only [Int32.toBitVec_and, Int32.toBitVec_or, Int32.toBitVec_xor, BitVec.getLsbD_and, BitVec.getLsbD_or, BitVec.getLsbD_xor, h]
  cases c.toBitVec.getLsbD i <;> cases t.toBitVec.getLsbD i <;> cases s.toBitVec.getLsbD i <;> rfl
/-- the class's cost is the reference's -/
theorem zcc {c t f : Int32} (h : zB 0 1023 c) : zbc (c &&& (zon t f ^^^ (-1))) = zcost c f t := by
  rw [zbc_bt (zand_l h)]
  unfold zcost zon
  rw [zmask]
theorem zc9 : ∀ m : Nat, m < 1024 → ∀ f : Nat, f < 10 → zpop (Int32.toNatClampNeg (Int32.ofNat m &&& (((1 : Int32) <<< (Int32.ofNat f &&& 31)) ^^^ (-1)))) ≤ 9 ∧ Int32.ofNat (Int32.toNatClampNeg (Int32.ofNat m &&& (((1 : Int32) <<< (Int32.ofNat f &&& 31)) ^^^ (-1)))) = Int32.ofNat m &&& (((1 : Int32) <<< (Int32.ofNat f &&& 31)) ^^^ (-1)) ∧ Int32.toNatClampNeg (Int32.ofNat m &&& (((1 : Int32) <<< (Int32.ofNat f &&& 31)) ^^^ (-1))) < 1024 := by decide +kernel
theorem zcost_b {c t f : Int32} (h : zB 0 1023 c) (bf : zB 0 9 f) : 0 ≤ (zcost c f t).toInt ∧ (zcost c f t).toInt ≤ 9 := by
  obtain ⟨m, hm, em, -, -⟩ := zn_of (hi := 1023) (by decide) (zand_l (y := t ^^^ (-1)) h)
  obtain ⟨g, hg, rfl, -, -⟩ := zn_of (hi := 9) (by decide) bf
  unfold zcost
  rw [em]
  obtain ⟨h1, h2, h3⟩ := zc9 m (by omega) g (by omega)
  rw [← h2, zbt_pop _ h3, Int32.zero_add, Int32.toInt_ofNat_of_lt (by omega)]
  omega
theorem zadd_s {x y : Int32} (hx : 0 ≤ x.toInt ∧ x.toInt ≤ 1000) (hy : 0 ≤ y.toInt ∧ y.toInt ≤ 1000) : (x + y).toInt = x.toInt + y.toInt := by
  rw [Int32.toInt_add]
  exact z_bmod ⟨by omega, by omega⟩
/-- the masks -/
def zCm (c : Nat → Int32) (nf : Int32) : Prop := ∀ f : Nat, (f : Int) < nf.toInt → zB 0 1023 (c f)
/-- the least cost behind q -/
def zLX (c le : Nat → Int32) (nf q : Int32) : Prop := zLE c le nf q ∧ ∀ f : Int32, 0 ≤ f.toInt → f.toInt < nf.toInt → ¬ zbit q f → (le (Int32.toNatClampNeg q)).toInt ≤ (zco c le q f).toInt
/-- the table's part behind s -/
def zTl (c le : Nat → Int32) (nf s : Int32) : Prop := (le (Int32.toNatClampNeg (zaLf nf))).toInt = 0 ∧ ∀ q : Int32, s.toInt < q.toInt → 0 ≤ q.toInt → q.toInt < (zaLf nf).toInt → zLX c le nf q
theorem zTl.b {c le : Nat → Int32} {nf s : Int32} (h : zTl c le nf s) (hc : zCm c nf) (bn : zB 0 10 nf) : ∀ (n : Nat) (q : Int32), (1024 - q.toInt).toNat = n → s.toInt < q.toInt → 0 ≤ q.toInt → q.toInt ≤ (zaLf nf).toInt → 0 ≤ (le (Int32.toNatClampNeg q)).toInt ∧ (le (Int32.toNatClampNeg q)).toInt ≤ 9 * (10 - (zpop (Int32.toNatClampNeg q) : Int)) := fun n => by
  induction n using Nat.strongRecOn with
  | _ n ih =>
    intro q hn hs h0 hq
    have ba := zaLf_b bn
    have ba2 := ba.2
    have bq : zB 0 1023 q := ⟨h0, by omega⟩
    by_cases c9 : q.toInt = (zaLf nf).toInt
    · rw [Int32.toInt_inj.mp c9, h.1]
      have := zpop_le (Int32.toNatClampNeg (zaLf nf)) (by have := z_cl (x := zaLf nf) ba.1; omega)
      omega
    · obtain ⟨⟨f, f1, f2, f3, f4⟩, -⟩ := h.2 q hs h0 (by omega)
      have bf : zB 0 9 f := ⟨f1, by have := bn.2; omega⟩
      have u := zon_u bq bf f3
      have v := zon_l bq bf bn f2 hq
      obtain ⟨i1, i2⟩ := ih (1024 - (zon q f).toInt).toNat (by omega) (zon q f) rfl (by omega) (by omega) v
      have k := zcost_b (t := q) (hc (Int32.toNatClampNeg f) (by have := z_cl (x := f) f1; omega)) bf
      rw [← f4]
      unfold zco
      rw [zadd_s ⟨by omega, by omega⟩ ⟨by omega, by omega⟩]
      omega
theorem zTl.bd {c le : Nat → Int32} {nf s q : Int32} (h : zTl c le nf s) (hc : zCm c nf) (bn : zB 0 10 nf) (hs : s.toInt < q.toInt) (h0 : 0 ≤ q.toInt) (hq : q.toInt ≤ (zaLf nf).toInt) : 0 ≤ (le (Int32.toNatClampNeg q)).toInt ∧ (le (Int32.toNatClampNeg q)).toInt ≤ 9 * (10 - (zpop (Int32.toNatClampNeg q) : Int)) := h.b hc bn _ q rfl hs h0 hq
/-- a cost behind q is below a hundred -/
theorem zTl.co {c le : Nat → Int32} {nf s q f : Int32} (h : zTl c le nf s) (hc : zCm c nf) (bn : zB 0 10 nf) (hs : s.toInt ≤ q.toInt) (h0 : 0 ≤ q.toInt) (hq : q.toInt < (zaLf nf).toInt) (f1 : 0 ≤ f.toInt) (f2 : f.toInt < nf.toInt) (f3 : ¬ zbit q f) : 0 ≤ (zco c le q f).toInt ∧ (zco c le q f).toInt ≤ 90 ∧ (zco c le q f).toInt = (zcost (c (Int32.toNatClampNeg f)) f q).toInt + (le (Int32.toNatClampNeg (zon q f))).toInt := by
  have ba2 := (zaLf_b bn).2
  have bq : zB 0 1023 q := ⟨h0, by omega⟩
  have bf : zB 0 9 f := ⟨f1, by have := bn.2; omega⟩
  have u := zon_u bq bf f3
  have v := zon_l bq bf bn f2 (by omega)
  obtain ⟨i1, i2⟩ := h.bd hc bn (q := zon q f) (by omega) (by omega) v
  have k := zcost_b (t := q) (hc (Int32.toNatClampNeg f) (by have := z_cl (x := f) f1; omega)) bf
  have e : (zco c le q f).toInt = (zcost (c (Int32.toNatClampNeg f)) f q).toInt + (le (Int32.toNatClampNeg (zon q f))).toInt := by
    unfold zco
    rw [zadd_s ⟨by omega, by omega⟩ ⟨by omega, by omega⟩]
  rw [e]
  exact ⟨by omega, by omega, rfl⟩
theorem zco_up {c le le' : Nat → Int32} {nf s q f b : Int32} (e : le' = upd le (Int32.toNatClampNeg s) b) (bn : zB 0 10 nf) (hs : 0 ≤ s.toInt) (bq : zB 0 1023 q) (hq : s.toInt ≤ q.toInt) (f1 : 0 ≤ f.toInt) (f2 : f.toInt < nf.toInt) (f3 : ¬ zbit q f) : zco c le' q f = zco c le q f := by
  have b9 := zon_u bq (⟨f1, by have := bn.2; omega⟩ : zB 0 9 f) f3
  unfold zco
  rw [e, z_upn (zcl_ne hs (by omega))]
/-- the table grows by one -/
theorem zTl.put {c le le' : Nat → Int32} {nf s s' b : Int32} (h : zTl c le nf s) (e : le' = upd le (Int32.toNatClampNeg s) b) (bn : zB 0 10 nf) (hs : 0 ≤ s.toInt) (ha : s.toInt < (zaLf nf).toInt) (hs' : s'.toInt = s.toInt - 1) (hx : ∃ g : Int32, 0 ≤ g.toInt ∧ g.toInt < nf.toInt ∧ ¬ zbit s g ∧ zco c le s g = b) (hm : ∀ g : Int32, 0 ≤ g.toInt → g.toInt < nf.toInt → ¬ zbit s g → b.toInt ≤ (zco c le s g).toInt) : zTl c le' nf s' := by
  have ba2 := (zaLf_b bn).2
  refine ⟨by rw [e, z_upn (zcl_ne hs ha)]; exact h.1, fun q h1 h2 h3 => ?_⟩
  have bq : zB 0 1023 q := ⟨h2, by omega⟩
  by_cases c9 : q.toInt = s.toInt
  · have eq := Int32.toInt_inj.mp c9
    subst eq
    obtain ⟨g, g1, g2, g3, g4⟩ := hx
    refine ⟨⟨g, g1, g2, g3, ?_⟩, fun g' q1 q2 q3 => ?_⟩
    · rw [zco_up e bn hs bq (Int.le_refl _) g1 g2 g3, e, z_upe]
      exact g4
    · rw [zco_up e bn hs bq (Int.le_refl _) q1 q2 q3, e, z_upe]
      exact hm g' q1 q2 q3
  · obtain ⟨⟨g, g1, g2, g3, g4⟩, g5⟩ := h.2 q (by omega) h2 h3
    refine ⟨⟨g, g1, g2, g3, ?_⟩, fun g' q1 q2 q3 => ?_⟩
    · rw [zco_up e bn hs bq (by omega) g1 g2 g3, e, z_upn (zcl_ne hs (by omega))]
      exact g4
    · rw [zco_up e bn hs bq (by omega) q1 q2 q3, e, z_upn (zcl_ne hs (by omega))]
      exact g5 g' q1 q2 q3
theorem zTl.st {c le : Nat → Int32} {nf s : Int32} (h0 : (le (Int32.toNatClampNeg (zaLf nf))).toInt = 0) (hs : (zaLf nf).toInt - 1 ≤ s.toInt) : zTl c le nf s := ⟨h0, fun q h1 _ h3 => by omega⟩
/-- the first of the best behind t -/
def zFst (c le : Nat → Int32) (nf t f : Int32) : Prop := 0 ≤ f.toInt ∧ f.toInt < nf.toInt ∧ ¬ zbit t f ∧ (∀ g : Int32, 0 ≤ g.toInt → g.toInt < nf.toInt → ¬ zbit t g → (zco c le t f).toInt ≤ (zco c le t g).toInt) ∧ ∀ g : Int32, 0 ≤ g.toInt → g.toInt < f.toInt → ¬ zbit t g → (zco c le t f).toInt < (zco c le t g).toInt
theorem zFst.un {c le : Nat → Int32} {nf t f f' : Int32} (h : zFst c le nf t f) (h' : zFst c le nf t f') : f = f' := by
  obtain ⟨a1, a2, a3, a4, a5⟩ := h
  obtain ⟨b1, b2, b3, b4, b5⟩ := h'
  apply Int32.toInt_inj.mp
  apply Classical.byContradiction
  intro h9
  by_cases c9 : f.toInt < f'.toInt
  · have := b5 f a1 c9 a3
    have := a4 f' b1 b2 b3
    omega
  · have := a5 f' b1 (by omega) b3
    have := b4 f a1 a2 a3
    omega
/-- the search for it -/
def zFB (c le : Nat → Int32) (t i f b : Int32) : Prop := (b.toInt = 100 ∧ ∀ g : Int32, 0 ≤ g.toInt → g.toInt < i.toInt → zbit t g) ∨ (0 ≤ f.toInt ∧ f.toInt < i.toInt ∧ ¬ zbit t f ∧ zco c le t f = b ∧ (∀ g : Int32, 0 ≤ g.toInt → g.toInt < i.toInt → ¬ zbit t g → b.toInt ≤ (zco c le t g).toInt) ∧ ∀ g : Int32, 0 ≤ g.toInt → g.toInt < f.toInt → ¬ zbit t g → b.toInt < (zco c le t g).toInt)
theorem zFB.st {c le : Nat → Int32} {t f : Int32} : zFB c le t 0 f 100 := Or.inl ⟨by decide, fun g h1 h2 => by have : (0 : Int32).toInt = 0 := (by decide); omega⟩
theorem zFB.skip {c le : Nat → Int32} {t i i' f b : Int32} (h : zFB c le t i f b) (hi : i'.toInt = i.toInt + 1) (hb : zbit t i ∨ b.toInt ≤ (zco c le t i).toInt ∧ b.toInt ≠ 100) : zFB c le t i' f b := by
  rcases h with ⟨h1, h2⟩ | ⟨h1, h2, h3, h4, h5, h6⟩
  · refine Or.inl ⟨h1, fun g q1 q2 => ?_⟩
    by_cases c9 : g.toInt = i.toInt
    · rw [Int32.toInt_inj.mp c9]
      rcases hb with hb | hb
      · exact hb
      · exact absurd h1 hb.2
    · exact h2 g q1 (by omega)
  · refine Or.inr ⟨h1, by omega, h3, h4, fun g q1 q2 q3 => ?_, h6⟩
    by_cases c9 : g.toInt = i.toInt
    · rw [Int32.toInt_inj.mp c9] at q3 ⊢
      rcases hb with hb | hb
      · exact absurd hb q3
      · exact hb.1
    · exact h5 g q1 (by omega) q3
theorem zFB.new {c le : Nat → Int32} {t i i' f b b' : Int32} (h : zFB c le t i f b) (hi : i'.toInt = i.toInt + 1) (h0 : 0 ≤ i.toInt) (hu : ¬ zbit t i) (e : zco c le t i = b') (hl : b'.toInt < b.toInt) : zFB c le t i' i b' := by
  refine Or.inr ⟨h0, by omega, hu, e, fun g q1 q2 q3 => ?_, fun g q1 q2 q3 => ?_⟩
  · by_cases c9 : g.toInt = i.toInt
    · rw [Int32.toInt_inj.mp c9, e]
      exact Int.le_refl _
    · rcases h with ⟨h1, h2⟩ | ⟨h1, h2, h3, h4, h5, h6⟩
      · exact absurd (h2 g q1 (by omega)) q3
      · have := h5 g q1 (by omega) q3
        omega
  · rcases h with ⟨h1, h2⟩ | ⟨h1, h2, h3, h4, h5, h6⟩
    · exact absurd (h2 g q1 q2) q3
    · have := h5 g q1 q2 q3
      omega
theorem zFB.ne {c le : Nat → Int32} {t i f b : Int32} (h : zFB c le t i f b) (hb : b.toInt = 100) (hco : ∀ g : Int32, 0 ≤ g.toInt → g.toInt < i.toInt → ¬ zbit t g → (zco c le t g).toInt ≤ 90) : ∀ g : Int32, 0 ≤ g.toInt → g.toInt < i.toInt → zbit t g := by
  rcases h with ⟨h1, h2⟩ | ⟨h1, h2, h3, h4, h5, h6⟩
  · exact h2
  · have := hco f h1 h2 h3
    rw [h4] at this
    omega
theorem zFB.en {c le : Nat → Int32} {nf t i f b : Int32} (h : zFB c le t i f b) (hi : i.toInt = nf.toInt) (bt : zB 0 1023 t) (bn : zB 0 10 nf) (ht : t.toInt < (zaLf nf).toInt) : zFst c le nf t f ∧ zco c le t f = b := by
  rcases h with ⟨h1, h2⟩ | ⟨h1, h2, h3, h4, h5, h6⟩
  · obtain ⟨g, g1, g2, g3⟩ := zaLf_un bt bn ht
    exact absurd (h2 g g1 (by omega)) g3
  · refine ⟨⟨h1, by omega, h3, fun g q1 q2 q3 => ?_, fun g q1 q2 q3 => ?_⟩, h4⟩
    · rw [h4]
      exact h5 g q1 (by omega) q3
    · rw [h4]
      exact h6 g q1 q2 q3
/-- from the table the first whose cost is the least -/
theorem zFst.of {c le : Nat → Int32} {nf t f : Int32} (h : zLX c le nf t) (h0 : 0 ≤ f.toInt ∧ f.toInt < nf.toInt) (hu : ¬ zbit t f) (e : zco c le t f = le (Int32.toNatClampNeg t)) (hl : ∀ g : Int32, 0 ≤ g.toInt → g.toInt < f.toInt → ¬ zbit t g → zco c le t g ≠ le (Int32.toNatClampNeg t)) : zFst c le nf t f := by
  refine ⟨h0.1, h0.2, hu, fun g q1 q2 q3 => by rw [e]; exact h.2 g q1 q2 q3, fun g q1 q2 q3 => ?_⟩
  have h1 := h.2 g q1 (by omega) q3
  have h2 := hl g q1 q2 q3
  rw [e]
  apply Classical.byContradiction
  intro h9
  exact h2 (Int32.toInt_inj.mp (by omega))
/-- what is told ahead of the k-th chapter; the k-th chapter -/
def zCs (c le : Nat → Int32) (nf : Int32) : Nat → Int32 → Prop
  | 0, t => t = 0
  | k + 1, t => ∃ t' f, zCs c le nf k t' ∧ zFst c le nf t' f ∧ t = zon t' f
def zCh (c le : Nat → Int32) (nf : Int32) (k : Nat) (f : Int32) : Prop := ∃ t, zCs c le nf k t ∧ zFst c le nf t f
theorem zCs.un {c le : Nat → Int32} {nf : Int32} : ∀ {k : Nat} {t t' : Int32}, zCs c le nf k t → zCs c le nf k t' → t = t'
  | 0, _, _, h, h' => Eq.trans (b := (0 : Int32)) h (Eq.symm h')
  | k + 1, _, _, ⟨t1, f1, a1, a2, a3⟩, ⟨t2, f2, b1, b2, b3⟩ => by
    have e := zCs.un a1 b1
    subst e
    rw [a3, b3, a2.un b2]
theorem zCh.un {c le : Nat → Int32} {nf f f' : Int32} {k : Nat} (h : zCh c le nf k f) (h' : zCh c le nf k f') : f = f' := by
  obtain ⟨t, a1, a2⟩ := h
  obtain ⟨t', b1, b2⟩ := h'
  have e := a1.un b1
  subst e
  exact a2.un b2
/-- two tables of the same calls -/
theorem zTl.same {c c' le le' : Nat → Int32} {nf : Int32} (h : zTl c le nf (-1)) (h' : zTl c' le' nf (-1)) (hc : zCm c nf) (bn : zB 0 10 nf) (ec : ∀ f : Nat, (f : Int) < nf.toInt → c' f = c f) : ∀ (n : Nat) (q : Int32), (1024 - q.toInt).toNat = n → 0 ≤ q.toInt → q.toInt ≤ (zaLf nf).toInt → le' (Int32.toNatClampNeg q) = le (Int32.toNatClampNeg q) := fun n => by
  have em1 : (-1 : Int32).toInt = -1 := by decide
  induction n using Nat.strongRecOn with
  | _ n ih =>
    intro q hn h0 hq
    have ba := zaLf_b bn
    have ba2 := ba.2
    have bq : zB 0 1023 q := ⟨h0, by omega⟩
    by_cases c9 : q.toInt = (zaLf nf).toInt
    · rw [Int32.toInt_inj.mp c9]
      exact Int32.toInt_inj.mp (h'.1.trans h.1.symm)
    · have key : ∀ f : Int32, 0 ≤ f.toInt → f.toInt < nf.toInt → ¬ zbit q f → zco c' le' q f = zco c le q f := fun f f1 f2 f3 => by
        have bf : zB 0 9 f := ⟨f1, by have := bn.2; omega⟩
        have u := zon_u bq bf f3
        have v := zon_l bq bf bn f2 hq
        unfold zco
        rw [ec (Int32.toNatClampNeg f) (by have := z_cl (x := f) f1; omega), ih (1024 - (zon q f).toInt).toNat (by omega) (zon q f) rfl (by omega) v]
      obtain ⟨⟨f, f1, f2, f3, f4⟩, f5⟩ := h.2 q (by omega) h0 (by omega)
      obtain ⟨⟨g, g1, g2, g3, g4⟩, g5⟩ := h'.2 q (by omega) h0 (by omega)
      have p1 := f5 g g1 g2 g3
      have p2 := g5 f f1 f2 f3
      rw [key f f1 f2 f3, f4] at p2
      rw [← key g g1 g2 g3, g4] at p1
      exact Int32.toInt_inj.mp (by omega)
theorem zTl.eq {c c' le le' : Nat → Int32} {nf q : Int32} (h : zTl c le nf (-1)) (h' : zTl c' le' nf (-1)) (hc : zCm c nf) (bn : zB 0 10 nf) (ec : ∀ f : Nat, (f : Int) < nf.toInt → c' f = c f) (h0 : 0 ≤ q.toInt) (hq : q.toInt ≤ (zaLf nf).toInt) : le' (Int32.toNatClampNeg q) = le (Int32.toNatClampNeg q) := h.same h' hc bn ec _ q rfl h0 hq
theorem zco_eq {c c' le le' : Nat → Int32} {nf q f : Int32} (h : zTl c le nf (-1)) (h' : zTl c' le' nf (-1)) (hc : zCm c nf) (bn : zB 0 10 nf) (ec : ∀ f : Nat, (f : Int) < nf.toInt → c' f = c f) (h0 : 0 ≤ q.toInt) (hq : q.toInt ≤ (zaLf nf).toInt) (f1 : 0 ≤ f.toInt) (f2 : f.toInt < nf.toInt) : zco c' le' q f = zco c le q f := by
  have bq : zB 0 1023 q := ⟨h0, by have := (zaLf_b bn).2; omega⟩
  have bf : zB 0 9 f := ⟨f1, by have := bn.2; omega⟩
  have u := zon_b bq bf
  have v := zon_l bq bf bn f2 hq
  unfold zco
  rw [ec (Int32.toNatClampNeg f) (by have := z_cl (x := f) f1; omega), h.eq h' hc bn ec (q := zon q f) (by have := u.1.1; omega) v]
theorem zFst.cg {c c' le le' : Nat → Int32} {nf t f : Int32} (k : zFst c' le' nf t f) (h : zTl c le nf (-1)) (h' : zTl c' le' nf (-1)) (hc : zCm c nf) (bn : zB 0 10 nf) (ec : ∀ f : Nat, (f : Int) < nf.toInt → c' f = c f) (h0 : 0 ≤ t.toInt) (ht : t.toInt ≤ (zaLf nf).toInt) : zFst c le nf t f := by
  obtain ⟨a1, a2, a3, a4, a5⟩ := k
  have e : ∀ g : Int32, 0 ≤ g.toInt → g.toInt < nf.toInt → zco c' le' t g = zco c le t g := fun g g1 g2 => zco_eq h h' hc bn ec h0 ht g1 g2
  refine ⟨a1, a2, a3, fun g q1 q2 q3 => ?_, fun g q1 q2 q3 => ?_⟩
  · rw [← e f a1 a2, ← e g q1 q2]
    exact a4 g q1 q2 q3
  · rw [← e f a1 a2, ← e g q1 (by omega)]
    exact a5 g q1 q2 q3
theorem zCs.b {c le : Nat → Int32} {nf : Int32} (bn : zB 0 10 nf) : ∀ {k : Nat} {t : Int32}, zCs c le nf k t → zB 0 1023 t ∧ t.toInt ≤ (zaLf nf).toInt ∧ zpop (Int32.toNatClampNeg t) = k
  | 0, t, h => by
    have e : t = 0 := h
    subst e
    exact ⟨⟨by decide, by decide⟩, (zaLf_b bn).1, by decide⟩
  | k + 1, t, ⟨t', f, a1, a2, a3⟩ => by
    obtain ⟨b1, b2, b3⟩ := zCs.b bn a1
    have bf : zB 0 9 f := ⟨a2.1, by have := bn.2; have := a2.2.1; omega⟩
    rw [a3]
    exact ⟨(zon_b b1 bf).1, zon_l b1 bf bn a2.2.1 b2, by rw [(zon_u b1 bf a2.2.2.1).2, b3]⟩
theorem zCs.cg {c c' le le' : Nat → Int32} {nf : Int32} (h : zTl c le nf (-1)) (h' : zTl c' le' nf (-1)) (hc : zCm c nf) (bn : zB 0 10 nf) (ec : ∀ f : Nat, (f : Int) < nf.toInt → c' f = c f) : ∀ {k : Nat} {t : Int32}, zCs c' le' nf k t → zCs c le nf k t
  | 0, _, q => q
  | k + 1, _, ⟨t', f, a1, a2, a3⟩ => by
    have b := zCs.b bn a1
    exact ⟨t', f, zCs.cg h h' hc bn ec a1, a2.cg h h' hc bn ec b.1.1 b.2.1, a3⟩
theorem zCh.cg {c c' le le' : Nat → Int32} {nf f : Int32} {k : Nat} (q : zCh c' le' nf k f) (h : zTl c le nf (-1)) (h' : zTl c' le' nf (-1)) (hc : zCm c nf) (bn : zB 0 10 nf) (ec : ∀ f : Nat, (f : Int) < nf.toInt → c' f = c f) : zCh c le nf k f := by
  obtain ⟨t, a1, a2⟩ := q
  have b := zCs.b bn a1
  exact ⟨t, a1.cg h h' hc bn ec, a2.cg h h' hc bn ec b.1.1 b.2.1⟩
/-- the k-th is not all told -/
theorem zCs.lt {c le : Nat → Int32} {nf t : Int32} {k : Nat} (h : zCs c le nf k t) (bn : zB 0 10 nf) (hk : (k : Int) < nf.toInt) : t.toInt < (zaLf nf).toInt := by
  obtain ⟨b1, b2, b3⟩ := zCs.b bn h
  exact zaLf_lt b1 bn b2 (by rw [b3]; exact hk)
theorem zTl.w {c le : Nat → Int32} {nf s s' : Int32} (h : zTl c le nf s) (hs : s.toInt ≤ s'.toInt) : zTl c le nf s' := ⟨h.1, fun q h1 h2 h3 => h.2 q (by omega) h2 h3⟩
/-- the reference's search for the least cost -/
def zIM (c le : Nat → Int32) (s f b : Int32) : Prop := (b.toInt = -1 ∧ ∀ g : Int32, 0 ≤ g.toInt → g.toInt < f.toInt → zbit s g) ∨ (0 ≤ b.toInt ∧ (∃ g : Int32, 0 ≤ g.toInt ∧ g.toInt < f.toInt ∧ ¬ zbit s g ∧ zco c le s g = b) ∧ ∀ g : Int32, 0 ≤ g.toInt → g.toInt < f.toInt → ¬ zbit s g → b.toInt ≤ (zco c le s g).toInt)
theorem zIM.z {c le : Nat → Int32} {s : Int32} : zIM c le s 0 (-1) := Or.inl ⟨by decide, fun g h1 h2 => absurd h2 (by have : (0 : Int32).toInt = 0 := (by decide); omega)⟩
theorem zIM.skip {c le : Nat → Int32} {s f f' b : Int32} (h : zIM c le s f b) (hb : zbit s f) (hf : f'.toInt = f.toInt + 1) : zIM c le s f' b := by
  rcases h with ⟨h1, h2⟩ | ⟨h0, ⟨g, h1, h2, h3⟩, h4⟩
  · refine Or.inl ⟨h1, fun g q1 q2 => ?_⟩
    by_cases c9 : g.toInt = f.toInt
    · rw [Int32.toInt_inj.mp c9]
      exact hb
    · exact h2 g q1 (by omega)
  · refine Or.inr ⟨h0, ⟨g, h1, by omega, h3⟩, fun g' q1 q2 q3 => ?_⟩
    by_cases c9 : g'.toInt = f.toInt
    · rw [Int32.toInt_inj.mp c9] at q3
      exact absurd hb q3
    · exact h4 g' q1 (by omega) q3
theorem zIM.add {c le : Nat → Int32} {s f f' b b1 b2 : Int32} (h : zIM c le s f b) (h0 : 0 ≤ f.toInt) (hu : ¬ zbit s f) (e : zco c le s f = b1) (e0 : 0 ≤ b1.toInt) (hm : (b.toInt = -1 ∧ b2.toInt = b1.toInt) ∨ (b.toInt ≠ -1 ∧ b2.toInt ≤ b.toInt ∧ b2.toInt ≤ b1.toInt ∧ (b2.toInt = b.toInt ∨ b2.toInt = b1.toInt))) (hf : f'.toInt = f.toInt + 1) : zIM c le s f' b2 := by
  have fin : ∀ g : Int32, g.toInt = f.toInt → zco c le s g = b1 := fun g hg => by
    rw [Int32.toInt_inj.mp hg]
    exact e
  rcases h with ⟨h1, h2⟩ | ⟨h9, ⟨g, h1, h2, h3, h5⟩, h4⟩
  · have eb : b2.toInt = b1.toInt := by omega
    refine Or.inr ⟨by omega, ⟨f, h0, by omega, hu, by rw [e]; exact Int32.toInt_inj.mp eb.symm⟩, fun g q1 q2 q3 => ?_⟩
    by_cases c9 : g.toInt = f.toInt
    · rw [fin g c9]
      omega
    · exact absurd (h2 g q1 (by omega)) q3
  · refine Or.inr ⟨by omega, ?_, fun g' q1 q2 q3 => ?_⟩
    · by_cases c8 : b2.toInt = b.toInt
      · exact ⟨g, h1, by omega, h3, by rw [h5]; exact Int32.toInt_inj.mp c8.symm⟩
      · exact ⟨f, h0, by omega, hu, by rw [e]; exact Int32.toInt_inj.mp (by omega)⟩
    · by_cases c9 : g'.toInt = f.toInt
      · rw [fin g' c9]
        omega
      · have := h4 g' q1 (by omega) q3
        omega
theorem zIM.end {c le : Nat → Int32} {s f b nf : Int32} (h : zIM c le s f b) (bs : zB 0 1023 s) (bn : zB 0 10 nf) (hs : s.toInt < (zaLf nf).toInt) (hf : f.toInt = nf.toInt) : (∃ g : Int32, 0 ≤ g.toInt ∧ g.toInt < nf.toInt ∧ ¬ zbit s g ∧ zco c le s g = b) ∧ ∀ g : Int32, 0 ≤ g.toInt → g.toInt < nf.toInt → ¬ zbit s g → b.toInt ≤ (zco c le s g).toInt := by
  rcases h with ⟨h1, h2⟩ | ⟨h0, ⟨g, h1, h2, h3⟩, h4⟩
  · obtain ⟨g, g1, g2, g3⟩ := zaLf_un bs bn hs
    exact absurd (h2 g g1 (by omega)) g3
  · exact ⟨⟨g, h1, by omega, h3⟩, fun g' q1 q2 q3 => h4 g' q1 (by omega) q3⟩
theorem zsh_b : ∀ n : Nat, n < 11 → 1 ≤ ((1 : Int32) <<< (Int32.ofNat n &&& 31)).toInt ∧ ((1 : Int32) <<< (Int32.ofNat n &&& 31)).toInt ≤ 1024 ∧ (zaLf (Int32.ofNat n)).toInt = ((1 : Int32) <<< (Int32.ofNat n &&& 31)).toInt - 1 := by decide +kernel
theorem zal_sh {nf : Int32} (bn : zB 0 10 nf) : 1 ≤ ((1 : Int32) <<< (nf &&& 31)).toInt ∧ ((1 : Int32) <<< (nf &&& 31)).toInt ≤ 1024 ∧ (zaLf nf).toInt = ((1 : Int32) <<< (nf &&& 31)).toInt - 1 := by
  obtain ⟨n, hn, rfl, -, -⟩ := zn_of (hi := 10) (by decide) bn
  exact zsh_b n (by omega)
/-- the class's calls; what Chapters knows -/
def zCa (F : Nat → va_E) (fa : Nat → Nat) (cv : Nat → Int32) (fc : Int32) : Prop := ∀ f : Nat, (f : Int) < fc.toInt → zfld F (fa f) 6 = .int (cv f)
theorem zCa.fr {Γ : Nat → Option Nat} {M : List Nat} {F0 F u : Nat → va_E} {pr : Nat} {fa : Nat → Nat} {cv : Nat → Int32} {fc : Int32} (h : zCa F fa cv fc) (hf : zFr Γ M F u) (hs : zPS Γ F0 pr fa) (h10 : fc.toInt ≤ 10) (hM : 206 ∉ M) : zCa u fa cv fc := fun f h9 => hf.f (hs.ty (by omega)) 6 ⟨by decide, hM⟩ (h f h9)
def zKb (c : Nat → Int32) (nf : Int32) (b o : Nat → Int32) : Prop := zTl c b nf (-1) ∧ ∀ i : Nat, (i : Int) < nf.toInt → zCh c b nf i (o i)
