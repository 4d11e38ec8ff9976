/-! The typed heap: a world L, F whose addresses bear type codes Γ; numbers between bounds; the rows that read and write it. -/
def zB (lo hi : Int) (x : Int32) : Prop := lo ≤ x.toInt ∧ x.toInt ≤ hi
theorem zB.all (x : Int32) : zB (-2147483648) 2147483647 x := ⟨Int32.le_toInt x, by have := Int32.toInt_lt x; omega⟩
theorem zB.w {a b c d : Int} {x : Int32} (h : zB a b x) (h1 : c ≤ a ∧ b ≤ d) : zB c d x := ⟨by have := h.1; omega, by have := h.2; omega⟩
theorem zB.of {lo hi : Int} {x : Int32} (h : lo ≤ x.toInt ∧ x.toInt ≤ hi) : zB lo hi x := h
theorem z_bmod {v : Int} (h : -2147483648 ≤ v ∧ v ≤ 2147483647) : v.bmod (2 ^ 32) = v := by
  rw [Int.bmod_eq_of_le] <;> omega
theorem zB.addE {a b c d : Int} {x y : Int32} (hx : zB a b x) (hy : zB c d y) (h : -2147483648 ≤ a + c ∧ b + d ≤ 2147483647) : (x + y).toInt = x.toInt + y.toInt := by
  rw [Int32.toInt_add]
  exact z_bmod ⟨by have := hx.1; have := hy.1; omega, by have := hx.2; have := hy.2; omega⟩
theorem zB.subE {a b c d : Int} {x y : Int32} (hx : zB a b x) (hy : zB c d y) (h : -2147483648 ≤ a - d ∧ b - c ≤ 2147483647) : (x - y).toInt = x.toInt - y.toInt := by
  rw [Int32.toInt_sub]
  exact z_bmod ⟨by have := hx.1; have := hy.2; omega, by have := hx.2; have := hy.1; omega⟩
theorem zB.mulE {b d : Int} {x y : Int32} (hx : zB 0 b x) (hy : zB 0 d y) (h : b * d ≤ 2147483647) : (x * y).toInt = x.toInt * y.toInt := by
  rw [Int32.toInt_mul]
  have h1 : x.toInt * y.toInt ≤ b * d := Int.mul_le_mul hx.2 hy.2 hy.1 (Int.le_trans hx.1 hx.2)
  have h2 : 0 ≤ x.toInt * y.toInt := Int.mul_nonneg hx.1 hy.1
  exact z_bmod ⟨by omega, by omega⟩
theorem z_idx {lo hi : Int} {i : Int32} {n : Nat} (h : zB lo hi i) (h1 : 0 ≤ lo ∧ hi < n) : vp_in i n := by
  have e0 : (0 : Int32).toInt = 0 := by decide
  have ha := h.1
  have hb := h.2
  rintro (q | q)
  · rw [Int32.lt_iff_toInt_lt, e0] at q
    omega
  · rw [Int32.toNatClampNeg] at q
    omega
theorem z_clamp {lo hi : Int} {i : Int32} {n : Nat} (h : zB lo hi i) (h1 : 0 ≤ lo ∧ hi < n) : i.toNatClampNeg < n := by
  have ha := h.1
  have hb := h.2
  rw [Int32.toNatClampNeg]
  omega
theorem z_lt {x y : Int32} (h : x < y) : x.toInt < y.toInt := Int32.lt_iff_toInt_lt.mp h
theorem z_nlt {x y : Int32} (h : ¬ x < y) : y.toInt ≤ x.toInt := by rw [Int32.lt_iff_toInt_lt] at h; omega
theorem z_le {x y : Int32} (h : x ≤ y) : x.toInt ≤ y.toInt := Int32.le_iff_toInt_le.mp h
theorem z_nle {x y : Int32} (h : ¬ x ≤ y) : y.toInt < x.toInt := by rw [Int32.le_iff_toInt_le] at h; omega
theorem z_ne {x y : Int32} (h : ¬ x = y) : x.toInt ≠ y.toInt := fun q => h (Int32.toInt_inj.mp q)
theorem z_eq {x y : Int32} (h : x = y) : x.toInt = y.toInt := by rw [h]
theorem zB.ltL {a b c d e : Int} {x y : Int32} (h : x.toInt < y.toInt) (hx : zB a b x) (hy : zB c d y) (he : d - 1 ≤ e) : zB a e x := ⟨hx.1, by have := hy.2; omega⟩
theorem zB.ltR {a b c d e : Int} {x y : Int32} (h : x.toInt < y.toInt) (hx : zB a b x) (hy : zB c d y) (he : e ≤ a + 1) : zB e d y := ⟨by have := hx.1; omega, hy.2⟩
theorem zB.leL {a b c d e : Int} {x y : Int32} (h : x.toInt ≤ y.toInt) (hx : zB a b x) (hy : zB c d y) (he : d ≤ e) : zB a e x := ⟨hx.1, by have := hy.2; omega⟩
theorem zB.leR {a b c d e : Int} {x y : Int32} (h : x.toInt ≤ y.toInt) (hx : zB a b x) (hy : zB c d y) (he : e ≤ a) : zB e d y := ⟨by have := hx.1; omega, hy.2⟩
theorem zB.eqL {a b c d : Int} {x y : Int32} (h : x.toInt = y.toInt) (hy : zB c d y) : zB c d x := ⟨by have := hy.1; omega, by have := hy.2; omega⟩
theorem zB.eqR {a b c d : Int} {x y : Int32} (h : x.toInt = y.toInt) (hx : zB a b x) : zB a b y := ⟨by have := hx.1; omega, by have := hx.2; omega⟩
theorem zB.neLo {a b e : Int} {x y : Int32} (h : x.toInt ≠ y.toInt) (hx : zB a b x) (hy : zB a a y) (he : e ≤ a + 1) : zB e b x := ⟨by have := hx.1; have := hy.1; have := hy.2; omega, hx.2⟩
theorem zB.neHi {a b e : Int} {x y : Int32} (h : x.toInt ≠ y.toInt) (hx : zB a b x) (hy : zB b b y) (he : b - 1 ≤ e) : zB a e x := ⟨hx.1, by have := hx.2; have := hy.1; have := hy.2; omega⟩
theorem zB.noLt {a b c d : Int} {P : Prop} {x y : Int32} (h : x.toInt < y.toInt) (hx : zB a b x) (hy : zB c d y) (he : d ≤ a) : P := by have := hx.1; have := hy.2; omega
theorem zB.noLe {a b c d : Int} {P : Prop} {x y : Int32} (h : x.toInt ≤ y.toInt) (hx : zB a b x) (hy : zB c d y) (he : d < a) : P := by have := hx.1; have := hy.2; omega
theorem zB.noEq {a b c d : Int} {P : Prop} {x y : Int32} (h : x.toInt = y.toInt) (hx : zB a b x) (hy : zB c d y) (he : d < a ∨ b < c) : P := by have := hx.1; have := hy.2; have := hx.2; have := hy.1; omega
theorem zB.noNe {a : Int} {P : Prop} {x y : Int32} (h : x.toInt ≠ y.toInt) (hx : zB a a x) (hy : zB a a y) : P := by have := hx.1; have := hy.2; have := hx.2; have := hy.1; omega
theorem z_nar8 (x : Int32) : zB (-128) 127 (vp_nar .byte x) := by
  have h : vp_nar .byte x = x.toInt8.toInt32 := rfl
  rw [h]
  refine ⟨?_, ?_⟩
  · rw [Int8.toInt_toInt32]; exact Int8.le_toInt _
  · rw [Int8.toInt_toInt32]; have := Int8.toInt_lt (x.toInt8); omega
theorem z_b01 {x : Int32} (h : zB 0 1 x) : x = 0 ∨ x = 1 := by
  have e0 : (0 : Int32).toInt = 0 := by decide
  have e1 : (1 : Int32).toInt = 1 := by decide
  have ha := h.1
  have hb := h.2
  by_cases q : x.toInt = 0
  · exact Or.inl (Int32.toInt_inj.mp (by rw [q, e0]))
  · exact Or.inr (Int32.toInt_inj.mp (by rw [e1]; omega))
theorem z_narZ {x : Int32} (h : zB 0 1 x) : narrow .boolean (.int x) = .int x := by
  rcases z_b01 h with rfl | rfl <;> rfl
theorem z_fitZ {x : Int32} (h : zB 0 1 x) : fits .boolean (.int x) = true := by
  rcases z_b01 h with rfl | rfl <;> rfl
theorem z_and {c : Int} {x y : Int32} (hy : zB 0 c y) : zB 0 c (x &&& y) := by
  have h1 := hy.1
  have h2 := hy.2
  have e : (x &&& y).toInt = ((x.toBitVec &&& y.toBitVec).toInt) := rfl
  have hyn : y.toBitVec.toNat < 2 ^ 31 := by
    have : y.toBitVec.toInt = y.toInt := rfl
    rw [BitVec.toInt_eq_toNat_cond] at this
    have := y.toBitVec.isLt
    split at * <;> omega
  have hyi : (y.toBitVec.toNat : Int) = y.toInt := by
    have : y.toBitVec.toInt = y.toInt := rfl
    rw [BitVec.toInt_eq_toNat_cond] at this
    split at * <;> omega
  have hle : (x.toBitVec &&& y.toBitVec).toNat ≤ y.toBitVec.toNat := by rw [BitVec.toNat_and]; exact Nat.and_le_right
  have hi : (x.toBitVec &&& y.toBitVec).toInt = ((x.toBitVec &&& y.toBitVec).toNat : Int) := by
    rw [BitVec.toInt_eq_toNat_cond]
    split <;> omega
  refine ⟨?_, ?_⟩ <;> rw [e, hi] <;> omega
def zspec : List (List (Nat × Int × Int)) := [[(2, 113, 0), (2, 114, 0), (0, 0, 1)],
  [(2, 102, 0), (2, 158, 0), (2, 159, 0), (0, 0, 1200)],
  [(0, (-2147483648), 2147483647), (0, (-1), 601), (0, (-2), 600), (0, (-2147483648), 2147483647), (0, (-2147483648), 2147483647), (0, (-2147483648), 2147483647), (0, (-2147483648), 2147483647), (0, 0, 3), (2, 103, 0)],
  [(2, 162, 0), (2, 163, 0), (0, (-2147483648), 2147483647)],
  [(0, (-2147483648), 2147483647), (0, (-2147483648), 2147483647), (0, (-2147483648), 2147483647), (0, (-2147483648), 2147483647)],
  [(0, (-2147483648), 2147483647), (0, (-2147483648), 2147483647), (0, (-2147483648), 2147483647), (0, 0, 4000001), (0, 0, 4000001), (0, (-2147483648), 2147483647), (1, 0, 0), (2, 108, 0), (2, 109, 0), (2, 110, 0), (4, 0, 0), (0, (-2147483648), 2147483647), (0, (-2147483648), 2147483647), (0, 0, 1), (0, (-2147483648), 2147483647), (0, 0, 8), (2, 111, 0), (2, 112, 0), (0, (-2147483648), 2147483647)],
  [(2, 8, 0), (2, 1, 0), (2, 104, 0), (2, 105, 0), (0, 0, 10), (0, 0, 60)],
  [(0, (-2147483648), 2147483647), (0, (-2147483648), 2147483647), (0, (-2147483648), 2147483647), (4, 0, 0), (4, 0, 0), (4, 0, 0), (0, (-1), 601), (2, 106, 0), (2, 107, 0), (2, 160, 0), (2, 161, 0), (0, 0, 150)],
  [(2, 157, 0), (0, 0, 600), (2, 101, 0), (2, 155, 0), (2, 156, 0), (0, 0, 601)],
  [(2, 115, 0), (2, 116, 0), (0, 0, 12), (0, (-2147483648), 2147483647), (0, 0, 12)],
  [(2, 100, 0), (0, 0, 600), (4, 0, 0), (4, 0, 0), (2, 7, 0), (2, 5, 0), (2, 5, 0), (2, 5, 0), (0, 0, 1), (2, 0, 0), (2, 9, 0), (2, 3, 0), (0, (-2147483648), 2147483647), (0, (-2147483648), 2147483647)],
  [(0, 0, 10), (0, 0, 60), (0, 0, 620), (0, 0, 1201), (2, 124, 0), (2, 125, 0), (2, 126, 0), (2, 127, 0), (2, 128, 0), (2, 129, 0), (2, 130, 0), (2, 131, 0), (2, 132, 0), (2, 133, 0), (2, 134, 0), (2, 135, 0), (2, 136, 0), (2, 137, 0), (2, 138, 0), (2, 139, 0), (2, 140, 0), (2, 141, 0), (2, 142, 0), (2, 143, 0), (2, 144, 0), (2, 145, 0), (2, 146, 0), (2, 147, 0), (2, 148, 0), (2, 149, 0)],
  [(0, (-2147483648), 2147483647), (0, (-2147483648), 2147483647), (0, 0, 2000), (0, 0, 2000), (0, 0, 2000), (0, (-2147483648), 2147483647), (1, 0, 0), (2, 165, 0), (2, 166, 0), (2, 167, 0)],
  [(4, 0, 0), (4, 0, 0), (4, 0, 0), (4, 0, 0), (4, 0, 0), (4, 0, 0), (0, (-2147483648), 2147483647), (0, (-2147483648), 2147483647)],
  [(0, (-2147483648), 2147483647), (0, (-2147483648), 2147483647), (0, (-2147483648), 2147483647), (0, (-2147483648), 2147483647), (4, 0, 0), (4, 0, 0), (4, 0, 0), (0, 0, 1), (0, 0, 1), (2, 13, 0), (2, 152, 0), (0, 0, 600), (0, 0, 600), (0, 0, 600), (0, (-2147483648), 2147483647), (0, 0, 600), (0, (-2147483648), 2147483647), (0, (-2147483648), 2147483647), (0, (-2147483648), 2147483647), (0, 0, 6), (0, 0, 6), (1, 0, 0), (4, 0, 0), (4, 0, 0), (0, 0, 1), (2, 150, 0), (0, (-2147483648), 2147483647), (0, 0, 8), (0, 0, 2000), (0, (-2147483648), 2147483647), (2, 168, 0), (2, 153, 0), (0, 0, 12), (0, 0, 12), (2, 151, 0), (2, 169, 0), (2, 170, 0), (2, 171, 0), (2, 172, 0), (2, 173, 0)]]
def zarrs : List (Nat × Nat × Int × Int) := [(0, 600, (-128), 127), (1, 601, (-2147483648), 2147483647), (1, 1200, (-2147483648), 2147483647), (1, 3, (-2147483648), 2147483647), (3, 10, 2, 0), (4, 60, 4, 0), (1, 150, (-1), 601), (1, 150, (-2147483648), 2147483647), (1, 60, (-2147483648), 2147483647), (1, 1600, (-2147483648), 2147483647), (1, 64, (-2147483648), 2147483647), (1, 8, (-2147483648), 2147483647), (1, 288, (-2147483648), 2147483647), (1, 1024, (-2147483648), 2147483647), (1, 10, (-2147483648), 2147483647), (2, 12, 0, 0), (1, 12, (-2147483648), 2147483647), (9, 0, 0, 0), (9, 0, 0, 0), (9, 0, 0, 0), (9, 0, 0, 0), (9, 0, 0, 0), (9, 0, 0, 0), (9, 0, 0, 0), (2, 10, 0, 0), (1, 10, (-2147483648), 2147483647), (1, 10, 0, 3), (1, 10, 0, 60), (1, 10, (-2147483648), 2147483647), (1, 10, (-2147483648), 2147483647), (1, 10, 0, 1201), (1, 10, 0, 1201), (1, 30, 0, 7), (1, 60, 0, 4), (1, 60, 0, 9), (1, 60, (-2147483648), 2147483647), (1, 60, (-2147483648), 2147483647), (1, 60, (-1), 7), (1, 60, (-1), 59), (1, 60, (-1), 59), (1, 60, (-1), 59), (1, 60, (-1), 59), (1, 60, 0, 620), (1, 60, 0, 620), (1, 620, (-2147483648), 2147483647), (1, 620, (-2147483648), 2147483647), (1, 620, (-2147483648), 2147483647), (1, 620, 0, 600), (2, 620, 0, 0), (0, 1201, (-128), 127), (1, 2000, (-2147483648), 2147483647), (1, 12, 0, 9), (0, 600, (-128), 127), (1, 1024, (-2147483648), 2147483647), (2, 1, 0, 0), (1, 601, (-2147483648), 2147483647), (1, 601, (-2147483648), 2147483647), (0, 600, (-128), 127), (1, 1200, (-2147483648), 2147483647), (1, 1200, (-2147483648), 2147483647), (1, 150, (-2147483648), 2147483647), (1, 150, (-2147483648), 2147483647), (1, 10, (-2147483648), 2147483647), (1, 10, (-2147483648), 2147483647), (9, 0, 0, 0), (1, 60, (-2147483648), 2147483647), (1, 1600, (-2147483648), 2147483647), (1, 64, (-2147483648), 2147483647), (1, 60, (-2147483648), 2147483647), (1, 12, (-2147483648), 2147483647), (1, 12, (-2147483648), 2147483647), (1, 12, (-2147483648), 2147483647), (1, 12, (-2147483648), 2147483647), (2, 12, 0, 0)]
def zsp (t : Nat) : List (Nat × Int × Int) := zspec.getD t []
def zas (t : Nat) : Nat × Nat × Int × Int := zarrs.getD (t - 100) (9, 0, 0, 0)
def zV (Γ : Nat → Option Nat) (q : Nat × Int × Int) (v : Value) : Prop := match q.1 with
  | 0 => ∃ x : Int32, v = .int x ∧ zB q.2.1 q.2.2 x
  | 1 => ∃ x : Int64, v = .long x
  | 2 => ∃ b : Nat, v = .ref b ∧ Γ b = some q.2.1.toNat
  | 3 => v = .null ∨ ∃ b : Nat, v = .ref b ∧ Γ b = some q.2.1.toNat
  | _ => True
def zfld (F : Nat → va_E) (a j : Nat) : Value := match F a with
  | .inr o => o.2.getD j .null
  | .inl _ => .null
def zO (Γ : Nat → Option Nat) (F : Nat → va_E) (a t : Nat) : Prop := ∃ fs : List Value, F a = .inr (t, fs) ∧ fs.length = (zsp t).length ∧ ∀ (j : Nat) (q : Nat × Int × Int), (zsp t)[j]? = some q → zV Γ q (zfld F a j)
def zAr (Γ : Nat → Option Nat) (k : Nat → ClassId) (F : Nat → va_E) (a t : Nat) : Prop := match (zas t).1 with
  | 0 => ∃ f : Nat → Int32, F a = .inl (k 0, (zas t).2.1, .inl f) ∧ ∀ i, i < (zas t).2.1 → zB (zas t).2.2.1 (zas t).2.2.2 (f i)
  | 1 => ∃ f : Nat → Int32, F a = .inl (k 1, (zas t).2.1, .inl f) ∧ ∀ i, i < (zas t).2.1 → zB (zas t).2.2.1 (zas t).2.2.2 (f i)
  | 2 => ∃ f : Nat → Int64, F a = .inl (k 2, (zas t).2.1, .inr (.inl f))
  | 3 => ∃ f : Nat → Option Nat, F a = .inl (k 3, (zas t).2.1, .inr (.inr (.inr (.inr f)))) ∧ ∀ i, i < (zas t).2.1 → ∃ b, f i = some b ∧ Γ b = some (zas t).2.2.1.toNat
  | _ => ∃ f : Nat → Option Nat, F a = .inl (k 4, (zas t).2.1, .inr (.inr (.inr (.inr f)))) ∧ ∀ i, i < (zas t).2.1 → ∃ b, f i = some b ∧ Γ b = some (zas t).2.2.1.toNat
def zInv (Γ : Nat → Option Nat) (k : Nat → ClassId) (L : List Nat) (F : Nat → va_E) : Prop := ∀ a t : Nat, Γ a = some t → a ∈ L ∧ (t < 100 → zO Γ F a t) ∧ (100 ≤ t → zAr Γ k F a t)
/-- what may have changed from F to F': the fields (100 t + j) and the arrays (100 t) of M -/
def zFr (Γ : Nat → Option Nat) (M : List Nat) (F F' : Nat → va_E) : Prop := (∀ a t : Nat, Γ a = some t → (t < 100 → ∀ j, 100 * t + j ∉ M → zfld F' a j = zfld F a j) ∧ (100 ≤ t → 100 * t ∉ M → F' a = F a)) ∧ ∀ a : Nat, Γ a = none → F' a = F a
theorem zFr.rf {Γ : Nat → Option Nat} {M : List Nat} {F : Nat → va_E} : zFr Γ M F F := ⟨fun _ _ _ => ⟨fun _ _ _ => rfl, fun _ _ => rfl⟩, fun _ _ => rfl⟩
theorem zFr.trans {Γ : Nat → Option Nat} {M M1 : List Nat} {F F1 F2 : Nat → va_E} (h : zFr Γ M F F1) (h1 : zFr Γ M1 F1 F2) (hs : ∀ x ∈ M1, x ∈ M) : zFr Γ M F F2 := ⟨fun a t ha =>
  ⟨fun ht j hj => ((h1.1 a t ha).1 ht j (fun q => hj (hs _ q))).trans ((h.1 a t ha).1 ht j hj), fun ht hj => ((h1.1 a t ha).2 ht (fun q => hj (hs _ q))).trans ((h.1 a t ha).2 ht hj)⟩, fun a ha => (h1.2 a ha).trans (h.2 a ha)⟩
theorem zFr.w {Γ : Nat → Option Nat} {M M1 : List Nat} {F F1 : Nat → va_E} (h : zFr Γ M1 F F1) (hs : ∀ x ∈ M1, x ∈ M) : zFr Γ M F F1 := zFr.rf.trans h hs
theorem zFr.f {Γ : Nat → Option Nat} {M : List Nat} {F F1 : Nat → va_E} (h : zFr Γ M F F1) {a t : Nat} (ha : Γ a = some t) (j : Nat) (hj : t < 100 ∧ 100 * t + j ∉ M) {v : Value} (hv : zfld F a j = v) : zfld F1 a j = v := ((h.1 a t ha).1 hj.1 j hj.2).trans hv
theorem zFr.a {Γ : Nat → Option Nat} {M : List Nat} {F F1 : Nat → va_E} (h : zFr Γ M F F1) {a t : Nat} (ha : Γ a = some t) (hj : 100 ≤ t ∧ 100 * t ∉ M) {v : va_E} (hv : F a = v) : F1 a = v := ((h.1 a t ha).2 hj.1 hj.2).trans hv
def zNt : List (Nat × String × String × String) := [(82, "LessonMakerModel$Stop", "kind", "I"), (85, "LessonMakerModel$Stop", "place", "I"), (168, "LessonMakerModel$Program", "functions", "I"), (171, "LessonMakerModel$Program", "lines", "I"), (174, "LessonMakerModel$Program", "items", "I"), (186, "LessonMakerModel$Program", "sign", "[I"), (189, "LessonMakerModel$Program", "called", "[J"), (196, "LessonMakerModel$Program", "has", "[I"), (199, "LessonMakerModel$Program", "many2", "[I"), (202, "LessonMakerModel$Program", "spot", "[I"), (205, "LessonMakerModel$Program", "value", "[I"), (208, "LessonMakerModel$Program", "textFrom", "[I"), (215, "LessonMakerModel$Program", "name", "[J"), (218, "LessonMakerModel$Program", "nameSize", "[I"), (228, "LessonMakerModel$Program", "place", "[I"), (230, "LessonMakerModel$Program", "first", "[I"), (237, "LessonMakerModel$Program", "many", "[I"), (243, "LessonMakerModel$Program", "next", "[I"), (245, "LessonMakerModel$Program", "textTo", "[I"), (248, "LessonMakerModel$Program", "kind", "[I"), (250, "LessonMakerModel$Program", "function", "[I"), (253, "LessonMakerModel$Program", "at", "[I"), (255, "LessonMakerModel$Program", "within", "[I"), (258, "LessonMakerModel$Program", "around", "[I"), (261, "LessonMakerModel$Program", "body", "[I"), (264, "LessonMakerModel$Program", "other", "[I"), (267, "LessonMakerModel$Program", "to", "[I"), (270, "LessonMakerModel$Program", "from", "[I"), (280, "LessonMakerModel$Program", "end", "[I"), (295, "LessonMakerModel$Program", "texts", "I"), (298, "LessonMakerModel$Program", "text", "[B"), (301, "LessonMakerModel$Program", "calls", "[I"), (350, "LessonMakerModel$Run", "end", "I"), (352, "LessonMakerModel$Run", "value", "I"), (354, "LessonMakerModel$Run", "steps", "I"), (357, "LessonMakerModel$Run", "saids", "I"), (360, "LessonMakerModel$Run", "traces", "I"), (363, "LessonMakerModel$Run", "most", "I"), (366, "LessonMakerModel$Run", "covered", "J"), (382, "LessonMakerModel$Run", "places", "[I"), (397, "LessonMakerModel$Run", "said", "[I"), (400, "LessonMakerModel$Run", "trace", "[I")]
def zNw : List Cond := zNt.map (fun q => .fieldLinkNest RX14 q.1 q.2.1 q.2.2.1 q.2.2.2 "LessonMakerModel")
def zStrs : List (String × Nat × String × Nat) := [(RX8, 80, "def", 3), (RX8, 86, "say", 3), (RX8, 88, "return", 6), (RX8, 90, "if", 2), (RX8, 92, "else", 4), (RX8, 94, "while", 5), (RX14, 152, "def", 3), (RX14, 158, "say", 3), (RX14, 160, "return", 6), (RX14, 162, "if", 2), (RX14, 164, "else", 4), (RX14, 166, "while", 5)]
def zByt : List (List Int32) := [[100, 101, 102], [115, 97, 121], [114, 101, 116, 117, 114, 110], [105, 102], [101, 108, 115, 101], [119, 104, 105, 108, 101], [100, 101, 102], [115, 97, 121], [114, 101, 116, 117, 114, 110], [105, 102], [101, 108, 115, 101], [119, 104, 105, 108, 101]]
/-- a text constant: the String at a, its bytes at v, n of them -/
def zSt (a v n : Nat) (bs : List Int32) (A : Nat → Prop) (U : State) (H : Heap) : Prop := va_O "java/lang/String" a A U H ∧ va_OF "java/lang/String" "coder" "B" (.int 0) a A U H ∧ va_OF "java/lang/String" "value" "[B" (.ref v) a A U H ∧ va_T .byte v n (fun j => .int (bs.getD j 0)) A U H
theorem zSt.warm {a v n : Nat} {bs : List Int32} {A A' : Nat → Prop} {s U : State} {H : Heap} {locs : List Loc} (h : zSt a v n bs A s s.heap) (hS : va_S A s.heap H locs) (hW : s.WarmedH U.vm) (hA : ∀ q, A' q → A q) : zSt a v n bs A' U H := by
  obtain ⟨h1, h2, h3, h4⟩ := h
  exact ⟨va_O.moved hW.alike ((h1.kept hS.2.1).narrow hA), va_OF.moved hW.alike ((h2.kept hS.2.1).narrow hA), va_OF.moved hW.alike ((h3.kept hS.2.1).narrow hA), va_T.moved hW.alike ((h4.kept hS.2.1).narrow hA)⟩
/-- what every walk takes along of the tables and of the heap outside the world; the texts' addresses are D.2 99 -/
def zE (D : va_G) (A : Nat → Prop) (U : State) (H : Heap) : Prop := z_N U ∧ (∀ w ∈ zNw, va_Nw w U) ∧ z_st A U H ∧ (∀ (i : Nat) (q : String × Nat × String × Nat), zStrs[i]? = some q → vk_R q.1 q.2.1 q.2.2.1 (D.2 99 i) U ∧ zSt (D.2 99 i) (D.2 98 i) q.2.2.2 (zByt.getD i []) A U H) ∧ va_Z "java/lang/String" "COMPACT_STRINGS" "Z" (.int 1) A U H ∧ va_Zq "jdk/internal/util/Preconditions" "SIOOBE_FORMATTER" "Ljava/util/function/BiFunction;" A U H ∧ ∃ a, vk_R RX10 140 "no such byte of the name" a U
theorem zE.warm {D : va_G} {A A' : Nat → Prop} {s U : State} {H : Heap} {locs : List Loc} (h : zE D A s s.heap) (hS : va_S A s.heap H locs) (hW : s.WarmedH U.vm) (hA : ∀ q, A' q → A q) : zE D A' U H :=
  ⟨h.1.warm hW, fun w hw => by
    have h9 := h.2.1 w hw
    obtain ⟨q, -, rfl⟩ := List.mem_map.mp hw
    exact va_Nw.warmF hW h9, ⟨vx_Zq.moved hW.alike ((h.2.2.1.1.kept hS.2.1).narrow hA), vx_Zq.moved hW.alike ((h.2.2.1.2.kept hS.2.1).narrow hA)⟩,
    fun i q hq => ⟨vk_R.warm hW (h.2.2.2.1 i q hq).1, (h.2.2.2.1 i q hq).2.warm hS hW hA⟩, va_Z.moved hW.alike ((h.2.2.2.2.1.kept hS.2.1).narrow hA), va_Zq.moved hW.alike ((h.2.2.2.2.2.1.kept hS.2.1).narrow hA), h.2.2.2.2.2.2.elim (fun a h9 => ⟨a, vk_R.warm hW h9⟩)⟩
def zT (k : Nat → ClassId) : List (ClassId × FieldType) := [(k 0, .byte), (k 1, .int), (k 2, .long), (k 3, .object RX2), (k 4, .object RX4)]
/-- the addresses that may change: the world's, and those that are made -/
def zA (L : List Nat) (sz : Nat) : Nat → Prop := fun q => q ∈ L ∨ sz ≤ q
/-- a method's start -/
def zP (D : va_G) (k : Nat → ClassId) (Γ : Nat → Option Nat) (L : List Nat) (F : Nat → va_E) (sz : Nat) (U : State) : Prop :=
  U.heap.size = sz ∧ va_P D z_Cl (va_pl L F) U.heap ∧ va_K D z_Cl (zT k) U ∧ L.Nodup ∧ zE D (zA L sz) U U.heap ∧ zInv Γ k L F
/-- a method's end -/
def zQ (D : va_G) (k : Nat → ClassId) (Γ : Nat → Option Nat) (L : List Nat) (F : Nat → va_E) (M : List Nat) (u : Nat → va_E) (t : State) : Prop := va_P D z_Cl (va_pl L u) t.heap ∧ zInv Γ k L u ∧ zFr Γ M F u
/-- what stands fast in a walk -/
def zC (p : Program) (m : MethodId) (c : Code) (cc : ByteArray) (nL : Nat) (s : State) (args : Array Value) (Ts : List Cond) (own : String) (D : va_G) (k : Nat → ClassId) (L : List Nat) : Prop := CallFix p m c cc nL s args Ts own ∧ va_K D z_Cl (zT k) s ∧ L.Nodup ∧ zE D (zA L s.heap.size) s s.heap
/-- what a walk carries on -/
def zH (D : va_G) (k : Nat → ClassId) (Γ : Nat → Option Nat) (L : List Nat) (s : State) (F : Nat → va_E) (H : Heap) (locs : List Loc) : Prop := va_P D z_Cl (va_pl L F) H ∧ zInv Γ k L F ∧ va_S (zA L s.heap.size) s.heap H locs
theorem zD {L : List Nat} {F : Nat → va_E} {sz : Nat} (h : L.Nodup) : va_D (zA L sz) (va_pl L F) := by
  refine ⟨fun i j p q hi hj hpq => ?_, fun k q hk => ?_⟩
  · simp only [va_pl, List.getElem?_map] at hi hj
    cases h1 : L[i]? with
    | none => rw [h1] at hi; cases hi
    | some a =>
      cases h2 : L[j]? with
      | none => rw [h2] at hj; cases hj
      | some b =>
        rw [h1] at hi; rw [h2] at hj
        cases Option.some.inj hi; cases Option.some.inj hj
        have hab : a = b := hpq
        subst hab
        exact (List.getElem?_inj (List.getElem?_eq_some_iff.mp h1).1 h).mp (h1.trans h2.symm)
  · have h9 := List.mem_of_getElem? hk
    simp only [va_pl, List.mem_map] at h9
    obtain ⟨b, hb, rfl⟩ := h9
    exact Or.inl hb
theorem zfld_of {F : Nat → va_E} {a t j : Nat} {fs : List Value} (h : F a = .inr (t, fs)) (hj : j < fs.length) : fs[j]? = some (zfld F a j) := by
  unfold zfld
  rw [h]
  simp [List.getD_eq_getElem?_getD, hj]
theorem zO_put {Γ : Nat → Option Nat} {k : Nat → ClassId} {L : List Nat} {F : Nat → va_E} (hI : zInv Γ k L F) {a t j : Nat} (ha : Γ a = some t) {fs : List Value} (hF : F a = .inr (t, fs)) {q : Nat × Int × Int} (ht : t < 100) (hq : (zsp t)[j]? = some q) {v : Value} (hv : zV Γ q v) :
    zInv Γ k L (va_up F a (.inr (t, fs.set j v))) ∧ zFr Γ [100 * t + j] F (va_up F a (.inr (t, fs.set j v))) ∧ zfld (va_up F a (.inr (t, fs.set j v))) a j = v := by
  obtain ⟨hL, hO, -⟩ := hI a t ha
  obtain ⟨fs', hF', hlen, hall⟩ := hO ht
  rw [hF] at hF'
  cases hF'
  have hj : j < fs.length := by rw [hlen]; exact (List.getElem?_eq_some_iff.mp hq).1
  have e1 : zfld (va_up F a (.inr (t, fs.set j v))) a j = v := by simp [zfld, va_up_self, List.getD_eq_getElem?_getD, hj]
  have e2 : ∀ i, i ≠ j → zfld (va_up F a (.inr (t, fs.set j v))) a i = zfld F a i := by
    intro i hi
    simp only [zfld, va_up_self, hF, List.getD_eq_getElem?_getD]
    rw [List.getElem?_set_ne (Ne.symm hi)]
  have e3 : ∀ b, b ≠ a → va_up F a (.inr (t, fs.set j v)) b = F b := fun b hb => va_up_ne F _ hb
  have e4 : ∀ b i, b ≠ a → zfld (va_up F a (.inr (t, fs.set j v))) b i = zfld F b i := by
    intro b i hb
    unfold zfld
    rw [e3 b hb]
  refine ⟨fun b u hb => ?_, ⟨fun b u hb => ?_, fun b hb => e3 b (fun q => by rw [q, ha] at hb; cases hb)⟩, e1⟩
  · by_cases hba : b = a
    · subst hba
      cases Option.some.inj (hb.symm.trans ha)
      refine ⟨hL, fun _ => ⟨fs.set j v, va_up_self _ _ _, by rw [List.length_set]; exact hlen, fun i qi hqi => ?_⟩, fun h9 => by omega⟩
      by_cases hij : i = j
      · subst hij
        rw [e1]
        cases Option.some.inj (hqi.symm.trans hq)
        exact hv
      · rw [e2 i hij]
        exact hall i qi hqi
    · obtain ⟨g1, g2, g3⟩ := hI b u hb
      refine ⟨g1, fun h9 => ?_, fun h9 => ?_⟩
      · obtain ⟨fs', k1, k2, k3⟩ := g2 h9
        exact ⟨fs', by rw [e3 b hba]; exact k1, k2, fun i qi hqi => by rw [e4 b i hba]; exact k3 i qi hqi⟩
      · have := g3 h9
        unfold zAr at this ⊢
        rw [e3 b hba]
        exact this
  · by_cases hba : b = a
    · subst hba
      cases Option.some.inj (hb.symm.trans ha)
      exact ⟨fun _ i hi => e2 i (fun q => hi (by subst q; exact List.mem_singleton.mpr rfl)), fun h9 => by omega⟩
    · exact ⟨fun _ i _ => e4 b i hba, fun _ _ => e3 b hba⟩
theorem zA_put {Γ : Nat → Option Nat} {k : Nat → ClassId} {L : List Nat} {F : Nat → va_E} (hI : zInv Γ k L F) {a t : Nat} (ha : Γ a = some t) (ht : 100 ≤ t) {e : va_E} (he : ∀ F' : Nat → va_E, F' a = e → zAr Γ k F' a t) (hr : ∀ x, e ≠ .inr x) (hr0 : ∀ x, F a ≠ .inr x) :
    zInv Γ k L (va_up F a e) ∧ zFr Γ [100 * t] F (va_up F a e) := by
  have e3 : ∀ b, b ≠ a → va_up F a e b = F b := fun b hb => va_up_ne F _ hb
  have e4 : ∀ b i, b ≠ a → zfld (va_up F a e) b i = zfld F b i := by
    intro b i hb
    unfold zfld
    rw [e3 b hb]
  refine ⟨fun b u hb => ?_, ⟨fun b u hb => ?_, fun b hb => e3 b (fun q => by rw [q, ha] at hb; cases hb)⟩⟩
  · by_cases hba : b = a
    · subst hba
      cases Option.some.inj (hb.symm.trans ha)
      exact ⟨(hI b t ha).1, fun h9 => by omega, fun _ => he _ (va_up_self _ _ _)⟩
    · obtain ⟨g1, g2, g3⟩ := hI b u hb
      refine ⟨g1, fun h9 => ?_, fun h9 => ?_⟩
      · obtain ⟨fs', k1, k2, k3⟩ := g2 h9
        exact ⟨fs', by rw [e3 b hba]; exact k1, k2, fun i qi hqi => by rw [e4 b i hba]; exact k3 i qi hqi⟩
      · have := g3 h9
        unfold zAr at this ⊢
        rw [e3 b hba]
        exact this
  · by_cases hba : b = a
    · subst hba
      cases Option.some.inj (hb.symm.trans ha)
      exact ⟨fun h9 => by omega, fun _ h9 => (h9 (List.mem_singleton.mpr rfl)).elim⟩
    · exact ⟨fun _ i _ => e4 b i hba, fun _ _ => e3 b hba⟩
section
variable {p : Program} {l : Launch} {e : Env} {R : Room} {s : State} {m : MethodId} {args : Array Value} {below : List Frame} {meth : Method} {c : Code} {H : Heap} {locs : List Loc} {cells slots : Nat} {Q : State → Prop}
variable {cc : ByteArray} {pc nL : Nat} {ls : Array Slot} {rest st0 : List Value} {D : va_G} {k : Nat → ClassId} {Γ : Nat → Option Nat} {L : List Nat} {F : Nat → va_E} {Ts : List Cond} {own ref C : String} {T : u_T} {N t a index : Nat}
theorem zt_get (Z : zC p m c cc nL s args Ts own D k L) (h : zH D k Γ L s F H locs) (ha : Γ a = some t) (hin : ∀ w ∈ u_ws C T N, w ∈ Ts) (hc : z_Cl[t]? = some (C, T, N)) (j : Nat) {q : Nat × Int × Int} (hq : (zsp t)[j]? = some q) (hn : t < 100 ∧ (zsp t).length = N) (hlink : Cond.fieldLink own index ref (T j).2.1 (T j).2.2.1 ∈ Ts) (hsame : ∀ x, s.fieldFound? (T j).1 (T j).2.1 (T j).2.2.1 = some x → s.fieldFound? ref (T j).2.1 (T j).2.2.1 = some x) (hdg : decode cc pc = .ok (.getfield index, 3))
    (kk : ∀ v : Value, zfld F a j = v → zV Γ q v → W p l e R s m args below meth c H locs cells slots Q (F0 m (pc + 3) ls (v :: rest))) : W p l e R s m args below meth c H locs cells slots Q (F0 m pc ls (.ref a :: rest)) := by
  obtain ⟨⟨hx, hb, hml, hown, hts⟩, hK, hLn, hE⟩ := Z
  obtain ⟨hP, hI, hS⟩ := h
  obtain ⟨hL, hO, -⟩ := hI a t ha
  obtain ⟨fs, hF, hlen, hall⟩ := hO hn.1
  have hj : j < N := by rw [← hn.2]; exact (List.getElem?_eq_some_iff.mp hq).1
  exact zf_get hx hb hts hin hown hK hP hL hF hc j hj (hts _ hlink) hsame (zfld_of hF (by rw [hlen, hn.2]; exact hj)) hdg (kk _ rfl (hall j q hq))
theorem zt_getk (Z : zC p m c cc nL s args Ts own D k L) (h : zH D k Γ L s F H locs) (ha : Γ a = some t) (hin : ∀ w ∈ u_ws C T N, w ∈ Ts) (hc : z_Cl[t]? = some (C, T, N)) (j : Nat) {v : Value} (hv : zfld F a j = v) (hn : t < 100 ∧ (zsp t).length = N ∧ j < N) (hlink : Cond.fieldLink own index ref (T j).2.1 (T j).2.2.1 ∈ Ts) (hsame : ∀ x, s.fieldFound? (T j).1 (T j).2.1 (T j).2.2.1 = some x → s.fieldFound? ref (T j).2.1 (T j).2.2.1 = some x) (hdg : decode cc pc = .ok (.getfield index, 3))
    (kk : W p l e R s m args below meth c H locs cells slots Q (F0 m (pc + 3) ls (v :: rest))) : W p l e R s m args below meth c H locs cells slots Q (F0 m pc ls (.ref a :: rest)) := by
  obtain ⟨⟨hx, hb, hml, hown, hts⟩, hK, hLn, hE⟩ := Z
  obtain ⟨hP, hI, hS⟩ := h
  obtain ⟨hL, hO, -⟩ := hI a t ha
  obtain ⟨fs, hF, hlen, hall⟩ := hO hn.1
  exact zf_get hx hb hts hin hown hK hP hL hF hc j hn.2.2 (hts _ hlink) hsame (by rw [← hv]; exact zfld_of hF (by rw [hlen, hn.2.1]; exact hn.2.2)) hdg kk
theorem zt_put (Z : zC p m c cc nL s args Ts own D k L) (h : zH D k Γ L s F H locs) (ha : Γ a = some t) (hin : ∀ w ∈ u_ws C T N, w ∈ Ts) (ty0 : Nat → FieldType) (hty : ∀ k, k < N → parseFieldDescriptor (T k).2.2.1 = some (ty0 k)) (hnm : ∀ a, a < N → ∀ b, b < N → a ≠ b → (T a).2.1 ≠ (T b).2.1) (hc : z_Cl[t]? = some (C, T, N)) (j : Nat) {q : Nat × Int × Int} (hq : (zsp t)[j]? = some q) (hn : t < 100 ∧ (zsp t).length = N) (hlink : Cond.fieldLink own index ref (T j).2.1 (T j).2.2.1 ∈ Ts) (hsame : ∀ x, s.fieldFound? (T j).1 (T j).2.1 (T j).2.2.1 = some x → s.fieldFound? ref (T j).2.1 (T j).2.2.1 = some x) (hfin : (T j).2.2.2 = false)
    {v : Value} (hv : zV Γ q v) (hnar : narrow (ty0 j) v = v) (hfit : fits (ty0 j) v = true) (hdg : decode cc pc = .ok (.putfield index, 3))
    (kk : ∀ (H1 : Heap) (locs1 : List Loc) (F1 : Nat → va_E), zH D k Γ L s F1 H1 locs1 → zFr Γ [100 * t + j] F F1 → zfld F1 a j = v → W p l e R s m args below meth c H1 locs1 cells slots Q (F0 m (pc + 3) ls rest)) : W p l e R s m args below meth c H locs cells slots Q (F0 m pc ls (v :: .ref a :: rest)) := by
  obtain ⟨⟨hx, hb, hml, hown, hts⟩, hK, hLn, hE⟩ := Z
  obtain ⟨hP, hI, hS⟩ := h
  obtain ⟨hL, hO, -⟩ := hI a t ha
  obtain ⟨fs, hF, hlen, hall⟩ := hO hn.1
  have hj : j < N := by rw [← hn.2]; exact (List.getElem?_eq_some_iff.mp hq).1
  obtain ⟨g1, g2, g3⟩ := zO_put hI ha hF hn.1 hq hv
  exact zf_put hx hb hts hin ty0 hty hnm hown hK hP (zD hLn) hS hL hF hc j hj (hts _ hlink) hsame hfin (hty j hj) hnar hfit (by rw [hlen, hn.2]; exact hj) hdg (fun H1 locs1 q1 _ q3 => kk H1 locs1 _ ⟨q1, g1, q3⟩ g2 g3)
end
section
variable {p : Program} {l : Launch} {e : Env} {R : Room} {s : State} {m : MethodId} {args : Array Value} {below : List Frame} {meth : Method} {c : Code} {H : Heap} {locs : List Loc} {cells slots : Nat} {Q : State → Prop}
variable {cc : ByteArray} {pc nL : Nat} {ls : Array Slot} {rest st0 : List Value} {D : va_G} {k : Nat → ClassId} {Γ : Nat → Option Nat} {L : List Nat} {F : Nat → va_E} {Ts : List Cond} {own : String} {t a n : Nat} {lo hi : Int} {i : Int32} {b0 b1 : Int}
theorem zt_ints {κ : Nat} (hI : zInv Γ k L F) (ha : Γ a = some t) (hq : 100 ≤ t ∧ zas t = (κ, n, lo, hi)) (hκ : κ < 2) : a ∈ L ∧ ∃ f : Nat → Int32, F a = .inl (k κ, n, .inl f) ∧ ∀ i, i < n → zB lo hi (f i) := by
  obtain ⟨hL, -, hA⟩ := hI a t ha
  have := hA hq.1
  unfold zAr at this
  rw [hq.2] at this
  have hκ2 : κ = 0 ∨ κ = 1 := by omega
  rcases hκ2 with rfl | rfl
  · exact ⟨hL, this⟩
  · exact ⟨hL, this⟩
theorem zt_iald (Z : zC p m c cc nL s args Ts own D k L) (h : zH D k Γ L s F H locs) (ha : Γ a = some t) (hq : 100 ≤ t ∧ zas t = (1, n, lo, hi)) (bi : zB b0 b1 i) (hb : 0 ≤ b0 ∧ b1 < n) (hdg : decode cc pc = .ok (.iaload, 1))
    (kk : ∀ x : Int32, zB lo hi x → W p l e R s m args below meth c H locs cells slots Q (F0 m (pc + 1) ls (.int x :: rest))) : W p l e R s m args below meth c H locs cells slots Q (F0 m pc ls (.int i :: .ref a :: rest)) := by
  obtain ⟨⟨hx, hbb, hml, hown, hts⟩, hK, hLn, hE⟩ := Z
  obtain ⟨hP, hI, hS⟩ := h
  obtain ⟨hL, f, hF, hall⟩ := zt_ints hI ha hq (by decide)
  exact zf_iald hx hbb hK hP hL 1 hF rfl (z_idx bi hb) hdg (kk _ (hall _ (z_clamp bi hb)))
theorem zt_bald (Z : zC p m c cc nL s args Ts own D k L) (h : zH D k Γ L s F H locs) (ha : Γ a = some t) (hq : 100 ≤ t ∧ zas t = (0, n, lo, hi)) (bi : zB b0 b1 i) (hb : 0 ≤ b0 ∧ b1 < n) (hdg : decode cc pc = .ok (.baload, 1))
    (kk : ∀ x : Int32, zB lo hi x → W p l e R s m args below meth c H locs cells slots Q (F0 m (pc + 1) ls (.int x :: rest))) : W p l e R s m args below meth c H locs cells slots Q (F0 m pc ls (.int i :: .ref a :: rest)) := by
  obtain ⟨⟨hx, hbb, hml, hown, hts⟩, hK, hLn, hE⟩ := Z
  obtain ⟨hP, hI, hS⟩ := h
  obtain ⟨hL, f, hF, hall⟩ := zt_ints hI ha hq (by decide)
  exact zf_bald hx hbb hK hP hL 0 hF rfl (z_idx bi hb) hdg (kk _ (hall _ (z_clamp bi hb)))
theorem z_upd {f : Nat → Int32} {j : Nat} {x : Int32} (hall : ∀ i, i < n → zB lo hi (f i)) (hx : zB lo hi x) : ∀ i, i < n → zB lo hi (upd f j x i) := by
  intro i hi
  unfold upd
  split
  · exact hx
  · exact hall i hi
theorem zt_iast (Z : zC p m c cc nL s args Ts own D k L) (h : zH D k Γ L s F H locs) (ha : Γ a = some t) (hq : 100 ≤ t ∧ zas t = (1, n, lo, hi)) (bi : zB b0 b1 i) (hb : 0 ≤ b0 ∧ b1 < n) {x : Int32} (bx : zB lo hi x) (hdg : decode cc pc = .ok (.iastore, 1))
    (kk : ∀ (H1 : Heap) (locs1 : List Loc) (F1 : Nat → va_E), zH D k Γ L s F1 H1 locs1 → zFr Γ [100 * t] F F1 → W p l e R s m args below meth c H1 locs1 cells slots Q (F0 m (pc + 1) ls rest)) : W p l e R s m args below meth c H locs cells slots Q (F0 m pc ls (.int x :: .int i :: .ref a :: rest)) := by
  obtain ⟨⟨hx, hbb, hml, hown, hts⟩, hK, hLn, hE⟩ := Z
  obtain ⟨hP, hI, hS⟩ := h
  obtain ⟨hL, f, hF, hall⟩ := zt_ints hI ha hq (by decide)
  obtain ⟨g1, g2⟩ := zA_put hI ha hq.1 (e := .inl (k 1, n, .inl (upd f i.toNatClampNeg x))) (fun F' hF' => by unfold zAr; rw [hq.2]; exact ⟨_, hF', z_upd hall bx⟩) (fun x q => by cases q) (fun x q => by rw [hF] at q; cases q)
  exact zf_iast hx hbb hK hP (zD hLn) hS hL 1 hF rfl (z_idx bi hb) hdg (fun H1 locs1 q1 _ q3 => kk H1 locs1 _ ⟨q1, g1, q3⟩ g2)
theorem zt_bast (Z : zC p m c cc nL s args Ts own D k L) (h : zH D k Γ L s F H locs) (ha : Γ a = some t) (hq : 100 ≤ t ∧ zas t = (0, n, -128, 127)) (bi : zB b0 b1 i) (hb : 0 ≤ b0 ∧ b1 < n) {x : Int32} (hdg : decode cc pc = .ok (.bastore, 1))
    (kk : ∀ (H1 : Heap) (locs1 : List Loc) (F1 : Nat → va_E), zH D k Γ L s F1 H1 locs1 → zFr Γ [100 * t] F F1 → W p l e R s m args below meth c H1 locs1 cells slots Q (F0 m (pc + 1) ls rest)) : W p l e R s m args below meth c H locs cells slots Q (F0 m pc ls (.int x :: .int i :: .ref a :: rest)) := by
  obtain ⟨⟨hx, hbb, hml, hown, hts⟩, hK, hLn, hE⟩ := Z
  obtain ⟨hP, hI, hS⟩ := h
  obtain ⟨hL, f, hF, hall⟩ := zt_ints hI ha hq (by decide)
  obtain ⟨g1, g2⟩ := zA_put hI ha hq.1 (e := .inl (k 0, n, .inl (upd f i.toNatClampNeg (vp_nar .byte x)))) (fun F' hF' => by unfold zAr; rw [hq.2]; exact ⟨_, hF', z_upd hall (z_nar8 x)⟩) (fun x q => by cases q) (fun x q => by rw [hF] at q; cases q)
  exact zf_bast hx hbb hK hP (zD hLn) hS hL 0 hF rfl (z_idx bi hb) hdg (fun H1 locs1 q1 _ q3 => kk H1 locs1 _ ⟨q1, g1, q3⟩ g2)
theorem zt_lald (Z : zC p m c cc nL s args Ts own D k L) (h : zH D k Γ L s F H locs) (ha : Γ a = some t) (hq : 100 ≤ t ∧ zas t = (2, n, lo, hi)) (bi : zB b0 b1 i) (hb : 0 ≤ b0 ∧ b1 < n) (hdg : decode cc pc = .ok (.laload, 1))
    (kk : ∀ x : Int64, W p l e R s m args below meth c H locs cells slots Q (F0 m (pc + 1) ls (.long x :: rest))) : W p l e R s m args below meth c H locs cells slots Q (F0 m pc ls (.int i :: .ref a :: rest)) := by
  obtain ⟨⟨hx, hbb, hml, hown, hts⟩, hK, hLn, hE⟩ := Z
  obtain ⟨hP, hI, hS⟩ := h
  obtain ⟨hL, -, hA⟩ := hI a t ha
  have := hA hq.1
  unfold zAr at this
  rw [hq.2] at this
  obtain ⟨f, hF⟩ := this
  obtain ⟨j, hj⟩ := va_pl_get (X := []) (f := F) hL
  rw [hF] at hj
  exact va_lald (ws := va_pl L F) hx hbb hK hP j 2 hj rfl (z_idx bi hb) hdg (kk _)
theorem zt_last (Z : zC p m c cc nL s args Ts own D k L) (h : zH D k Γ L s F H locs) (ha : Γ a = some t) (hq : 100 ≤ t ∧ zas t = (2, n, lo, hi)) (bi : zB b0 b1 i) (hb : 0 ≤ b0 ∧ b1 < n) {x : Int64} (hdg : decode cc pc = .ok (.lastore, 1))
    (kk : ∀ (H1 : Heap) (locs1 : List Loc) (F1 : Nat → va_E), zH D k Γ L s F1 H1 locs1 → zFr Γ [100 * t] F F1 → W p l e R s m args below meth c H1 locs1 cells slots Q (F0 m (pc + 1) ls rest)) : W p l e R s m args below meth c H locs cells slots Q (F0 m pc ls (.long x :: .int i :: .ref a :: rest)) := by
  obtain ⟨⟨hx, hbb, hml, hown, hts⟩, hK, hLn, hE⟩ := Z
  obtain ⟨hP, hI, hS⟩ := h
  obtain ⟨hL, -, hA⟩ := hI a t ha
  have := hA hq.1
  unfold zAr at this
  rw [hq.2] at this
  obtain ⟨f, hF⟩ := this
  obtain ⟨j, hj⟩ := va_pl_get (X := []) (f := F) hL
  have hD9 : va_D (zA L s.heap.size) (va_pl L F) := zD hLn
  have he := va_pl_set (X := []) (e := .inl (k 2, n, .inr (.inl (vp_updL f i.toNatClampNeg x)))) hD9 hL hj
  rw [hF] at hj
  rw [List.nil_append, List.nil_append] at he
  obtain ⟨g1, g2⟩ := zA_put hI ha hq.1 (e := .inl (k 2, n, .inr (.inl (vp_updL f i.toNatClampNeg x)))) (fun F' hF' => by unfold zAr; rw [hq.2]; exact ⟨_, hF'⟩) (fun x q => by cases q) (fun x q => by rw [hF] at q; cases q)
  exact va_last (ws := va_pl L F) hx hbb hK hP hD9 hS j 2 hj rfl (z_idx bi hb) hdg (fun H1 locs1 q1 _ q3 => kk H1 locs1 _ ⟨by rw [← he]; exact q1, g1, q3⟩ g2)
theorem zt_aald (Z : zC p m c cc nL s args Ts own D k L) (h : zH D k Γ L s F H locs) (ha : Γ a = some t) {κ t1 : Nat} (hq : 100 ≤ t ∧ zas t = (κ, n, (t1 : Int), hi)) (hκ : κ = 3 ∨ κ = 4) (bi : zB b0 b1 i) (hb : 0 ≤ b0 ∧ b1 < n) (hdg : decode cc pc = .ok (.aaload, 1))
    (kk : ∀ b : Nat, Γ b = some t1 → W p l e R s m args below meth c H locs cells slots Q (F0 m (pc + 1) ls (.ref b :: rest))) : W p l e R s m args below meth c H locs cells slots Q (F0 m pc ls (.int i :: .ref a :: rest)) := by
  obtain ⟨⟨hx, hbb, hml, hown, hts⟩, hK, hLn, hE⟩ := Z
  obtain ⟨hP, hI, hS⟩ := h
  obtain ⟨hL, -, hA⟩ := hI a t ha
  have := hA hq.1
  unfold zAr at this
  rw [hq.2] at this
  obtain ⟨j, hj⟩ := va_pl_get (X := []) (f := F) hL
  rcases hκ with rfl | rfl
  · obtain ⟨f, hF, hall⟩ := this
    rw [hF] at hj
    obtain ⟨b, hb1, hb2⟩ := hall _ (z_clamp bi hb)
    refine va_aldq (ws := va_pl L F) hx hbb hK hP j 3 hj rfl (z_idx bi hb) hdg ?_
    rw [hb1]
    exact kk b hb2
  · obtain ⟨f, hF, hall⟩ := this
    rw [hF] at hj
    obtain ⟨b, hb1, hb2⟩ := hall _ (z_clamp bi hb)
    refine va_aldq (ws := va_pl L F) hx hbb hK hP j 4 hj rfl (z_idx bi hb) hdg ?_
    rw [hb1]
    exact kk b hb2
theorem zt_alen (Z : zC p m c cc nL s args Ts own D k L) (h : zH D k Γ L s F H locs) (ha : Γ a = some t) {κ : Nat} (hq : 100 ≤ t ∧ zas t = (κ, n, lo, hi)) (hκ : κ < 5) {v : Int32} (hv : Int32.ofNat n = v) (hdg : decode cc pc = .ok (.arraylength, 1))
    (kk : W p l e R s m args below meth c H locs cells slots Q (F0 m (pc + 1) ls (.int v :: rest))) : W p l e R s m args below meth c H locs cells slots Q (F0 m pc ls (.ref a :: rest)) := by
  obtain ⟨⟨hx, hbb, hml, hown, hts⟩, hK, hLn, hE⟩ := Z
  obtain ⟨hP, hI, hS⟩ := h
  obtain ⟨hL, -, hA⟩ := hI a t ha
  have := hA hq.1
  unfold zAr at this
  rw [hq.2] at this
  have hκ2 : κ = 0 ∨ κ = 1 ∨ κ = 2 ∨ κ = 3 ∨ κ = 4 := by omega
  rcases hκ2 with rfl | rfl | rfl | rfl | rfl
  · obtain ⟨f, hF, -⟩ := this
    exact zf_alen hx hbb hK hP hL 0 hF rfl hv hdg kk
  · obtain ⟨f, hF, -⟩ := this
    exact zf_alen hx hbb hK hP hL 1 hF rfl hv hdg kk
  · obtain ⟨f, hF⟩ := this
    exact zf_alen hx hbb hK hP hL 2 hF rfl hv hdg kk
  · obtain ⟨f, hF, -⟩ := this
    exact zf_alen hx hbb hK hP hL 3 hF rfl hv hdg kk
  · obtain ⟨f, hF, -⟩ := this
    exact zf_alen hx hbb hK hP hL 4 hF rfl hv hdg kk
/-- numbers: an answer by its bounds and its equation -/
theorem zi_add {x y : Int32} {a b c' d : Int} (bx : zB a b x) (by_ : zB c' d y) (h : -2147483648 ≤ a + c' ∧ b + d ≤ 2147483647 ∧ lo ≤ a + c' ∧ b + d ≤ hi) (kk : ∀ z : Int32, zB lo hi z → z.toInt = x.toInt + y.toInt → W p l e R s m args below meth c H locs cells slots Q (F0 m pc ls (.int z :: rest))) : W p l e R s m args below meth c H locs cells slots Q (F0 m pc ls (.int (x + y) :: rest)) := by
  have e := zB.addE bx by_ ⟨h.1, h.2.1⟩
  exact kk _ ⟨by rw [e]; have := bx.1; have := by_.1; omega, by rw [e]; have := bx.2; have := by_.2; omega⟩ e
theorem zi_sub {x y : Int32} {a b c' d : Int} (bx : zB a b x) (by_ : zB c' d y) (h : -2147483648 ≤ a - d ∧ b - c' ≤ 2147483647 ∧ lo ≤ a - d ∧ b - c' ≤ hi) (kk : ∀ z : Int32, zB lo hi z → z.toInt = x.toInt - y.toInt → W p l e R s m args below meth c H locs cells slots Q (F0 m pc ls (.int z :: rest))) : W p l e R s m args below meth c H locs cells slots Q (F0 m pc ls (.int (x - y) :: rest)) := by
  have e := zB.subE bx by_ ⟨h.1, h.2.1⟩
  exact kk _ ⟨by rw [e]; have := bx.1; have := by_.2; omega, by rw [e]; have := bx.2; have := by_.1; omega⟩ e
theorem zi_mul {x y : Int32} {b d : Int} (bx : zB 0 b x) (by_ : zB 0 d y) (h : b * d ≤ 2147483647) (kk : ∀ z : Int32, zB 0 (b * d) z → z.toInt = x.toInt * y.toInt → W p l e R s m args below meth c H locs cells slots Q (F0 m pc ls (.int z :: rest))) : W p l e R s m args below meth c H locs cells slots Q (F0 m pc ls (.int (x * y) :: rest)) := by
  have e := zB.mulE bx by_ h
  have h1 : x.toInt * y.toInt ≤ b * d := Int.mul_le_mul bx.2 by_.2 by_.1 (Int.le_trans bx.1 bx.2)
  have h2 : 0 ≤ x.toInt * y.toInt := Int.mul_nonneg bx.1 by_.1
  exact kk _ ⟨by rw [e]; exact h2, by rw [e]; exact h1⟩ e
theorem zi_and {x y : Int32} {d : Int} (by_ : zB 0 d y) (kk : ∀ z : Int32, zB 0 d z → z = x &&& y → W p l e R s m args below meth c H locs cells slots Q (F0 m pc ls (.int z :: rest))) : W p l e R s m args below meth c H locs cells slots Q (F0 m pc ls (.int (x &&& y) :: rest)) := kk _ (z_and by_) rfl
theorem zi_any {x : Int32} (kk : ∀ z : Int32, zB (-2147483648) 2147483647 z → z = x → W p l e R s m args below meth c H locs cells slots Q (F0 m pc ls (.int z :: rest))) : W p l e R s m args below meth c H locs cells slots Q (F0 m pc ls (.int x :: rest)) := kk x (zB.all x) rfl
end
/-! Calls: the callee takes the same world, and gives a new one back. -/
section
variable {p : Program} {l : Launch} {e : Env} {R : Room} {s : State} {m : MethodId} {args : Array Value} {below : List Frame} {meth : Method} {c : Code} {H : Heap} {locs : List Loc} {cells slots : Nat} {Q : State → Prop}
variable {cc : ByteArray} {pc nL : Nat} {ls : Array Slot} {rest st0 : List Value} {D : va_G} {k : Nat → ClassId} {Γ : Nat → Option Nat} {L : List Nat} {F : Nat → va_E} {Ts : List Cond} {own C : String} {t b n index maxL : Nat} {y : MethodName} {ws : List Cond} {rm : Room} {bytes : ByteArray} {ret : Option FieldType} {As : List Value} {M : List Nat} {q : u_T × Nat}
theorem zP_blind {av : List Value} {sz : Nat} : FrameBlind (va_Pc av (zP D k Γ L F sz)) := fun a U g mk q => by
  obtain ⟨q0, q1, qP, qK, qL, qE, qI⟩ := q
  exact ⟨q0, q1, qP, va_K.moved (u := U) (U := U.calling g mk a) (Vm.Alike.refl U.vm) qK, qL, zE.warm (U := U.calling g mk a) qE va_S.rf (State.WarmedH.refl U) (fun _ h => h), qI⟩
theorem zA_in {s : State} (hS : va_S (zA L s.heap.size) s.heap H locs) : ∀ q, zA L H.size q → zA L s.heap.size q := fun _ h => h.elim Or.inl (fun g => Or.inr (Nat.le_trans hS.1 g))
theorem zP_pre {av : List Value} (Z : zC p m c cc nL s args Ts own D k L) (h : zH D k Γ L s F H locs) : ∀ U : State, U.heap = H → s.WarmedH U.vm → va_Pc av (zP D k Γ L F H.size) av.toArray U := fun U hU hW => by
  obtain ⟨-, hK, hLn, hE⟩ := Z
  obtain ⟨hP, hI, hS⟩ := h
  exact ⟨rfl, by rw [hU], by rw [hU]; exact hP, va_K.moved hW.alike hK, hLn, by rw [hU]; exact zE.warm hE hS hW (zA_in hS), hI⟩
theorem zP_recv (Z : zC p m c cc nL s args Ts own D k L) (h : zH D k Γ L s F H locs) (hb : Γ b = some t) (ht : t < 100) (hc : z_Cl[t]? = some (C, q)) : ∃ cell : Cell, H[b]? = some cell ∧ cell.vm.isStatics = false ∧ s.vm.findClass C = some cell.cls := by
  obtain ⟨-, hK, hLn, hE⟩ := Z
  obtain ⟨hP, hI, hS⟩ := h
  obtain ⟨hL, hO, -⟩ := hI b t hb
  obtain ⟨fs, hF, -, -⟩ := hO ht
  obtain ⟨j, hj⟩ := va_pl_get (X := []) (f := F) hL
  rw [hF] at hj
  exact va_recv (ws := va_pl L F) (q := (C, q)) hK hP hc hj
theorem zk_Wi {post : Int32 → (Nat → va_E) → Prop} (Z : zC p m c cc nL s args Ts own D k L) (h : zH D k Γ L s F H locs) (hM : Met l y ws rm (va_Pc (.ref b :: As) (zP D k Γ L F H.size)) (va_Qi post (zQ D k Γ L F M) (zA L H.size)) 0 0 (zA L H.size)) (cw : CallW R s args own C index y bytes maxL ret ws rm 0 0 n) (hrc : ∃ cell : Cell, H[b]? = some cell ∧ cell.vm.isStatics = false ∧ s.vm.findClass C = some cell.cls) (hn : As.length = n) (hsz : ls.size = nL) (hst : st0 = As.reverse ++ .ref b :: rest) (hW : (rest.map fun v => v.category).sum ≤ 8) (hdg : decode cc pc = .ok (.invokevirtual index, 3)) (hf : cells ≤ R.cells ∧ slots ≤ R.slots)
    (kk : ∀ (r : Int32) (F1 : Nat → va_E) (H1 : Heap) (locs1 : List Loc), post r F1 → zH D k Γ L s F1 H1 locs1 → zFr Γ M F F1 → W p l e R s m args below meth c H1 locs1 cells slots Q (F0 m (pc + 3) ls (.int r :: rest))) : W p l e R s m args below meth c H locs cells slots Q (F0 m pc ls st0) :=
  va_calli (va_runV (As := As) (rest := rest) Z.1 hM cw ⟨zP_blind, hrc, zP_pre Z h⟩ rfl hn hsz hst (lv_room hW) hdg hf) h.2.2 (fun q _ g => zA_in h.2.2 q g) (zA_in h.2.2) (fun r u t H1 locs1 ht _ hp hB _ _ hS => kk r u H1 locs1 hp ⟨by rw [← ht]; exact hB.1, hB.2.1, hS⟩ hB.2.2)
theorem zk_Wl {post : Int64 → (Nat → va_E) → Prop} (Z : zC p m c cc nL s args Ts own D k L) (h : zH D k Γ L s F H locs) (hM : Met l y ws rm (va_Pc (.ref b :: As) (zP D k Γ L F H.size)) (va_Ql post (zQ D k Γ L F M) (zA L H.size)) 0 0 (zA L H.size)) (cw : CallW R s args own C index y bytes maxL ret ws rm 0 0 n) (hrc : ∃ cell : Cell, H[b]? = some cell ∧ cell.vm.isStatics = false ∧ s.vm.findClass C = some cell.cls) (hn : As.length = n) (hsz : ls.size = nL) (hst : st0 = As.reverse ++ .ref b :: rest) (hW : (rest.map fun v => v.category).sum ≤ 8) (hdg : decode cc pc = .ok (.invokevirtual index, 3)) (hf : cells ≤ R.cells ∧ slots ≤ R.slots)
    (kk : ∀ (r : Int64) (F1 : Nat → va_E) (H1 : Heap) (locs1 : List Loc), post r F1 → zH D k Γ L s F1 H1 locs1 → zFr Γ M F F1 → W p l e R s m args below meth c H1 locs1 cells slots Q (F0 m (pc + 3) ls (.long r :: rest))) : W p l e R s m args below meth c H locs cells slots Q (F0 m pc ls st0) :=
  va_calll (va_runV (As := As) (rest := rest) Z.1 hM cw ⟨zP_blind, hrc, zP_pre Z h⟩ rfl hn hsz hst (lv_room hW) hdg hf) h.2.2 (fun q _ g => zA_in h.2.2 q g) (zA_in h.2.2) (fun r u t H1 locs1 ht _ hp hB _ _ hS => kk r u H1 locs1 hp ⟨by rw [← ht]; exact hB.1, hB.2.1, hS⟩ hB.2.2)
theorem zk_Wv {post : (Nat → va_E) → Prop} (Z : zC p m c cc nL s args Ts own D k L) (h : zH D k Γ L s F H locs) (hM : Met l y ws rm (va_Pc (.ref b :: As) (zP D k Γ L F H.size)) (va_Qv post (zQ D k Γ L F M) (zA L H.size)) 0 0 (zA L H.size)) (cw : CallW R s args own C index y bytes maxL ret ws rm 0 0 n) (hrc : ∃ cell : Cell, H[b]? = some cell ∧ cell.vm.isStatics = false ∧ s.vm.findClass C = some cell.cls) (hn : As.length = n) (hsz : ls.size = nL) (hst : st0 = As.reverse ++ .ref b :: rest) (hW : (rest.map fun v => v.category).sum ≤ 8) (hdg : decode cc pc = .ok (.invokevirtual index, 3)) (hf : cells ≤ R.cells ∧ slots ≤ R.slots)
    (kk : ∀ (F1 : Nat → va_E) (H1 : Heap) (locs1 : List Loc), post F1 → zH D k Γ L s F1 H1 locs1 → zFr Γ M F F1 → W p l e R s m args below meth c H1 locs1 cells slots Q (F0 m (pc + 3) ls rest)) : W p l e R s m args below meth c H locs cells slots Q (F0 m pc ls st0) :=
  va_callv (va_runV (As := As) (rest := rest) Z.1 hM cw ⟨zP_blind, hrc, zP_pre Z h⟩ rfl hn hsz hst (lv_room hW) hdg hf) h.2.2 (fun q _ g => zA_in h.2.2 q g) (zA_in h.2.2) (fun u t H1 locs1 ht _ hp hB _ _ hS => kk u H1 locs1 hp ⟨by rw [← ht]; exact hB.1, hB.2.1, hS⟩ hB.2.2)
theorem zk_Vi {post : Int32 → (Nat → va_E) → Prop} (Z : zC p m c cc nL s args Ts own D k L) (h : zH D k Γ L s F H locs) (hM : Met l y ws rm (va_Pc (.ref b :: As) (zP D k Γ L F H.size)) (va_Qi post (zQ D k Γ L F M) (zA L H.size)) 0 0 (zA L H.size)) (cw : CallW R s args own C index y bytes maxL ret ws rm 0 0 n) (hb : Γ b = some t) (ht : t < 100) (hc : z_Cl[t]? = some (C, q)) (hn : As.length = n) (hsz : ls.size = nL) (hst : st0 = As.reverse ++ .ref b :: rest) (hW : (rest.map fun v => v.category).sum ≤ 8) (hdg : decode cc pc = .ok (.invokevirtual index, 3)) (hf : cells ≤ R.cells ∧ slots ≤ R.slots)
    (kk : ∀ (r : Int32) (F1 : Nat → va_E) (H1 : Heap) (locs1 : List Loc), post r F1 → zH D k Γ L s F1 H1 locs1 → zFr Γ M F F1 → W p l e R s m args below meth c H1 locs1 cells slots Q (F0 m (pc + 3) ls (.int r :: rest))) : W p l e R s m args below meth c H locs cells slots Q (F0 m pc ls st0) :=
  va_calli (va_runV (As := As) (rest := rest) Z.1 hM cw ⟨zP_blind, zP_recv Z h hb ht hc, zP_pre Z h⟩ rfl hn hsz hst (lv_room hW) hdg hf) h.2.2 (fun q _ g => zA_in h.2.2 q g) (zA_in h.2.2) (fun r u t H1 locs1 ht _ hp hB _ _ hS => kk r u H1 locs1 hp ⟨by rw [← ht]; exact hB.1, hB.2.1, hS⟩ hB.2.2)
theorem zk_Vl {post : Int64 → (Nat → va_E) → Prop} (Z : zC p m c cc nL s args Ts own D k L) (h : zH D k Γ L s F H locs) (hM : Met l y ws rm (va_Pc (.ref b :: As) (zP D k Γ L F H.size)) (va_Ql post (zQ D k Γ L F M) (zA L H.size)) 0 0 (zA L H.size)) (cw : CallW R s args own C index y bytes maxL ret ws rm 0 0 n) (hb : Γ b = some t) (ht : t < 100) (hc : z_Cl[t]? = some (C, q)) (hn : As.length = n) (hsz : ls.size = nL) (hst : st0 = As.reverse ++ .ref b :: rest) (hW : (rest.map fun v => v.category).sum ≤ 8) (hdg : decode cc pc = .ok (.invokevirtual index, 3)) (hf : cells ≤ R.cells ∧ slots ≤ R.slots)
    (kk : ∀ (r : Int64) (F1 : Nat → va_E) (H1 : Heap) (locs1 : List Loc), post r F1 → zH D k Γ L s F1 H1 locs1 → zFr Γ M F F1 → W p l e R s m args below meth c H1 locs1 cells slots Q (F0 m (pc + 3) ls (.long r :: rest))) : W p l e R s m args below meth c H locs cells slots Q (F0 m pc ls st0) :=
  va_calll (va_runV (As := As) (rest := rest) Z.1 hM cw ⟨zP_blind, zP_recv Z h hb ht hc, zP_pre Z h⟩ rfl hn hsz hst (lv_room hW) hdg hf) h.2.2 (fun q _ g => zA_in h.2.2 q g) (zA_in h.2.2) (fun r u t H1 locs1 ht _ hp hB _ _ hS => kk r u H1 locs1 hp ⟨by rw [← ht]; exact hB.1, hB.2.1, hS⟩ hB.2.2)
theorem zk_Vv {post : (Nat → va_E) → Prop} (Z : zC p m c cc nL s args Ts own D k L) (h : zH D k Γ L s F H locs) (hM : Met l y ws rm (va_Pc (.ref b :: As) (zP D k Γ L F H.size)) (va_Qv post (zQ D k Γ L F M) (zA L H.size)) 0 0 (zA L H.size)) (cw : CallW R s args own C index y bytes maxL ret ws rm 0 0 n) (hb : Γ b = some t) (ht : t < 100) (hc : z_Cl[t]? = some (C, q)) (hn : As.length = n) (hsz : ls.size = nL) (hst : st0 = As.reverse ++ .ref b :: rest) (hW : (rest.map fun v => v.category).sum ≤ 8) (hdg : decode cc pc = .ok (.invokevirtual index, 3)) (hf : cells ≤ R.cells ∧ slots ≤ R.slots)
    (kk : ∀ (F1 : Nat → va_E) (H1 : Heap) (locs1 : List Loc), post F1 → zH D k Γ L s F1 H1 locs1 → zFr Γ M F F1 → W p l e R s m args below meth c H1 locs1 cells slots Q (F0 m (pc + 3) ls rest)) : W p l e R s m args below meth c H locs cells slots Q (F0 m pc ls st0) :=
  va_callv (va_runV (As := As) (rest := rest) Z.1 hM cw ⟨zP_blind, zP_recv Z h hb ht hc, zP_pre Z h⟩ rfl hn hsz hst (lv_room hW) hdg hf) h.2.2 (fun q _ g => zA_in h.2.2 q g) (zA_in h.2.2) (fun u t H1 locs1 ht _ hp hB _ _ hS => kk u H1 locs1 hp ⟨by rw [← ht]; exact hB.1, hB.2.1, hS⟩ hB.2.2)
theorem zk_Si {post : Int32 → (Nat → va_E) → Prop} (Z : zC p m c cc nL s args Ts own D k L) (h : zH D k Γ L s F H locs) (hM : Met l y ws rm (va_Pc As (zP D k Γ L F H.size)) (va_Qi post (zQ D k Γ L F M) (zA L H.size)) 0 0 (zA L H.size)) (cw : CallB R s args own index y bytes maxL ret ws rm 0 0 n ∧ (Cond.static y).before args s = true) (hn : As.length = n) (hsz : ls.size = nL) (hst : st0 = As.reverse ++ rest) (hW : (rest.map fun v => v.category).sum ≤ 8) (hdg : decode cc pc = .ok (.invokestatic index, 3)) (hf : cells ≤ R.cells ∧ slots ≤ R.slots)
    (kk : ∀ (r : Int32) (F1 : Nat → va_E) (H1 : Heap) (locs1 : List Loc), post r F1 → zH D k Γ L s F1 H1 locs1 → zFr Γ M F F1 → W p l e R s m args below meth c H1 locs1 cells slots Q (F0 m (pc + 3) ls (.int r :: rest))) : W p l e R s m args below meth c H locs cells slots Q (F0 m pc ls st0) :=
  va_calli (va_runS (As := As) (rest := rest) Z.1 hM cw ⟨zP_blind, zP_pre Z h⟩ rfl hn hsz hst (lv_room hW) hdg hf) h.2.2 (fun q _ g => zA_in h.2.2 q g) (zA_in h.2.2) (fun r u t H1 locs1 ht _ hp hB _ _ hS => kk r u H1 locs1 hp ⟨by rw [← ht]; exact hB.1, hB.2.1, hS⟩ hB.2.2)
theorem zk_Sl {post : Int64 → (Nat → va_E) → Prop} (Z : zC p m c cc nL s args Ts own D k L) (h : zH D k Γ L s F H locs) (hM : Met l y ws rm (va_Pc As (zP D k Γ L F H.size)) (va_Ql post (zQ D k Γ L F M) (zA L H.size)) 0 0 (zA L H.size)) (cw : CallB R s args own index y bytes maxL ret ws rm 0 0 n ∧ (Cond.static y).before args s = true) (hn : As.length = n) (hsz : ls.size = nL) (hst : st0 = As.reverse ++ rest) (hW : (rest.map fun v => v.category).sum ≤ 8) (hdg : decode cc pc = .ok (.invokestatic index, 3)) (hf : cells ≤ R.cells ∧ slots ≤ R.slots)
    (kk : ∀ (r : Int64) (F1 : Nat → va_E) (H1 : Heap) (locs1 : List Loc), post r F1 → zH D k Γ L s F1 H1 locs1 → zFr Γ M F F1 → W p l e R s m args below meth c H1 locs1 cells slots Q (F0 m (pc + 3) ls (.long r :: rest))) : W p l e R s m args below meth c H locs cells slots Q (F0 m pc ls st0) :=
  va_calll (va_runS (As := As) (rest := rest) Z.1 hM cw ⟨zP_blind, zP_pre Z h⟩ rfl hn hsz hst (lv_room hW) hdg hf) h.2.2 (fun q _ g => zA_in h.2.2 q g) (zA_in h.2.2) (fun r u t H1 locs1 ht _ hp hB _ _ hS => kk r u H1 locs1 hp ⟨by rw [← ht]; exact hB.1, hB.2.1, hS⟩ hB.2.2)
end
