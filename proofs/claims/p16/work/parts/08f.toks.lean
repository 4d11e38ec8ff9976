/-! A text's tokens: of bytes B, n of them. -/
/-- byte x, -1 where there is none -/
def zby (B : Nat → Int32) (n : Nat) (x : Int) : Int := if 0 ≤ x ∧ x < n then (B x.toNat).toInt else -1
theorem zby_in {B : Nat → Int32} {n : Nat} {x : Int} (h : 0 ≤ x ∧ x < n) : zby B n x = (B x.toNat).toInt := if_pos h
theorem zby_out {B : Nat → Int32} {n : Nat} {x : Int} (h : ¬ (0 ≤ x ∧ x < n)) : zby B n x = -1 := if_neg h
theorem zby_lt {B : Nat → Int32} {n : Nat} {x : Int} (h : zby B n x ≠ -1) : 0 ≤ x ∧ x < n := by
  apply Classical.byContradiction
  intro h1
  exact h (zby_out h1)
/-- the first place from a on where p doesn't hold, within f further ones -/
def zrun (p : Int → Bool) (a : Int) : Nat → Int
  | 0 => a
  | f + 1 => if p a then zrun p (a + 1) f else a
theorem zrun_le (p : Int → Bool) : ∀ (f : Nat) (a : Int), a ≤ zrun p a f ∧ zrun p a f ≤ a + f
  | 0, a => ⟨Int.le_refl _, by show a ≤ a + 0; omega⟩
  | f + 1, a => by
    unfold zrun
    split
    · have := zrun_le p f (a + 1)
      omega
    · omega
theorem zrun_in (p : Int → Bool) : ∀ (f : Nat) (a j : Int), a ≤ j → j < zrun p a f → p j = true
  | 0, a, j => fun h1 h2 => by
    have : zrun p a 0 = a := rfl
    omega
  | f + 1, a, j => fun h1 h2 => by
    unfold zrun at h2
    split at h2
    · by_cases c : j = a
      · rw [c]; assumption
      · exact zrun_in p f (a + 1) j (by omega) h2
    · omega
theorem zrun_end (p : Int → Bool) : ∀ (f : Nat) (a : Int), p (a + f) = false → p (zrun p a f) = false
  | 0, a => fun h => by
    have : zrun p a 0 = a := rfl
    rw [this]
    have e : a + ((0 : Nat) : Int) = a := by omega
    rw [e] at h
    exact h
  | f + 1, a => fun h => by
    unfold zrun
    split
    · exact zrun_end p f (a + 1) (by have e : a + 1 + (f : Int) = a + ((f + 1 : Nat) : Int) := by omega
                                     rw [e]; exact h)
    · exact Bool.eq_false_iff.mpr (by assumption)
/-- of p that holds nowhere from n on -/
def zend (p : Int → Bool) (n : Nat) (a : Int) : Int := zrun p a ((n : Int) - a).toNat
theorem zend_le (p : Int → Bool) (n : Nat) (a : Int) : a ≤ zend p n a := (zrun_le p _ a).1
theorem zend_n {p : Int → Bool} {n : Nat} {a : Int} (h : a ≤ n) : zend p n a ≤ n := by
  have := (zrun_le p ((n : Int) - a).toNat a).2
  unfold zend
  omega
theorem zend_in {p : Int → Bool} {n : Nat} {a j : Int} (h1 : a ≤ j) (h2 : j < zend p n a) : p j = true := zrun_in p _ a j h1 h2
theorem zend_end {p : Int → Bool} {n : Nat} (hp : ∀ j : Int, (n : Int) ≤ j → p j = false) (a : Int) : p (zend p n a) = false := by
  refine zrun_end p _ a ?_
  exact hp _ (by omega)
theorem zend_un {p : Int → Bool} {n : Nat} (hp : ∀ j : Int, (n : Int) ≤ j → p j = false) {a e : Int} (h1 : a ≤ e) (h2 : ∀ j, a ≤ j → j < e → p j = true) (h3 : p e = false) : zend p n a = e := by
  have g1 := zend_le p n a
  have g2 := zend_end hp a
  apply Int.le_antisymm
  · apply Int.not_lt.mp
    intro h
    rw [zend_in h1 h] at h3
    cases h3
  · apply Int.not_lt.mp
    intro h
    rw [h2 _ g1 h] at g2
    cases g2
theorem zend_step {p : Int → Bool} {n : Nat} (hp : ∀ j : Int, (n : Int) ≤ j → p j = false) {a : Int} (h : p a = true) : zend p n a = zend p n (a + 1) := by
  have g1 := zend_le p n (a + 1)
  refine zend_un hp (by omega) (fun j h1 h2 => ?_) (zend_end hp _)
  by_cases c : j = a
  · rw [c]; exact h
  · exact zend_in (by omega) h2
theorem zend_stop {p : Int → Bool} {n : Nat} (hp : ∀ j : Int, (n : Int) ≤ j → p j = false) {a : Int} (h : p a = false) : zend p n a = a :=
  zend_un hp (Int.le_refl _) (fun j h1 h2 => by omega) h
def zLt (B : Nat → Int32) (n : Nat) (x : Int) : Bool := decide (97 ≤ zby B n x ∧ zby B n x ≤ 122)
def zDg (B : Nat → Int32) (n : Nat) (x : Int) : Bool := decide (48 ≤ zby B n x ∧ zby B n x ≤ 57)
def zBl (B : Nat → Int32) (n : Nat) (x : Int) : Bool := decide (zby B n x = 32 ∨ zby B n x = 10)
theorem zby_n {B : Nat → Int32} {n : Nat} {j : Int} (h : (n : Int) ≤ j) : zby B n j = -1 := zby_out (by omega)
theorem zLt_n {B : Nat → Int32} {n : Nat} : ∀ j : Int, (n : Int) ≤ j → zLt B n j = false := fun j h => decide_eq_false (by rw [zby_n h]; omega)
theorem zDg_n {B : Nat → Int32} {n : Nat} : ∀ j : Int, (n : Int) ≤ j → zDg B n j = false := fun j h => decide_eq_false (by rw [zby_n h]; omega)
theorem zBl_n {B : Nat → Int32} {n : Nat} : ∀ j : Int, (n : Int) ≤ j → zBl B n j = false := fun j h => decide_eq_false (by rw [zby_n h]; omega)
def zsg (b : Int) : Prop := b = 40 ∨ b = 41 ∨ b = 123 ∨ b = 125 ∨ b = 44 ∨ b = 59 ∨ b = 61 ∨ b = 60 ∨ b = 62 ∨ b = 43 ∨ b = 45 ∨ b = 42
/-- a word's number: base 32, its first letter highest -/
def zwI (f : Int → Int) (a : Int) : Nat → Int
  | 0 => 0
  | m + 1 => 32 * zwI f a m + (f (a + m) - 96)
theorem zwI_0 {f : Int → Int} {a : Int} : ∀ {m : Nat}, (∀ j : Nat, j < m → 97 ≤ f (a + j) ∧ f (a + j) ≤ 122) → 0 ≤ zwI f a m
  | 0, _ => Int.le_refl _
  | m + 1, h => by
    have h1 := zwI_0 (f := f) (a := a) (m := m) (fun j hj => h j (by omega))
    have h2 := h m (by omega)
    show 0 ≤ 32 * zwI f a m + (f (a + m) - 96)
    omega
theorem zwI_inj {f g : Int → Int} {a b : Int} : ∀ {m k : Nat}, (∀ j : Nat, j < m → 97 ≤ f (a + j) ∧ f (a + j) ≤ 122) → (∀ j : Nat, j < k → 97 ≤ g (b + j) ∧ g (b + j) ≤ 122) → zwI f a m = zwI g b k → m = k ∧ ∀ j : Nat, j < m → f (a + j) = g (b + j)
  | 0, 0, _, _, _ => ⟨rfl, fun j hj => by omega⟩
  | 0, k + 1, _, hg, e => by
    have h1 := zwI_0 (f := g) (a := b) (m := k) (fun j hj => hg j (by omega))
    have h2 := hg k (by omega)
    have e' : (0 : Int) = 32 * zwI g b k + (g (b + k) - 96) := e
    omega
  | m + 1, 0, hf, _, e => by
    have h1 := zwI_0 (f := f) (a := a) (m := m) (fun j hj => hf j (by omega))
    have h2 := hf m (by omega)
    have e' : 32 * zwI f a m + (f (a + m) - 96) = (0 : Int) := e
    omega
  | m + 1, k + 1, hf, hg, e => by
    have e' : 32 * zwI f a m + (f (a + m) - 96) = 32 * zwI g b k + (g (b + k) - 96) := e
    have h1 := hf m (by omega)
    have h2 := hg k (by omega)
    have e1 : zwI f a m = zwI g b k := by omega
    have e2 : f (a + m) = g (b + k) := by omega
    obtain ⟨r1, r2⟩ := zwI_inj (m := m) (k := k) (fun j hj => hf j (by omega)) (fun j hj => hg j (by omega)) e1
    subst r1
    refine ⟨rfl, fun j hj => ?_⟩
    by_cases c : j = m
    · rw [c]; exact e2
    · exact r2 j (by omega)
theorem zwI_cg {f g : Int → Int} {a b : Int} : ∀ {m : Nat}, (∀ j : Nat, j < m → f (a + j) = g (b + j)) → zwI f a m = zwI g b m
  | 0, _ => rfl
  | m + 1, h => by
    show 32 * zwI f a m + (f (a + m) - 96) = 32 * zwI g b m + (g (b + m) - 96)
    rw [zwI_cg (fun j hj => h j (by omega)), h m (by omega)]
theorem zwI_lt {f : Int → Int} {a : Int} : ∀ {m : Nat}, (∀ j : Nat, j < m → 97 ≤ f (a + j) ∧ f (a + j) ≤ 122) → m ≤ 8 → zwI f a m < 1099511627776 := fun {m} h hm => by
  have key : ∀ m : Nat, (∀ j : Nat, j < m → 97 ≤ f (a + j) ∧ f (a + j) ≤ 122) → zwI f a m < (32 : Int) ^ m := by
    intro m
    induction m with
    | zero => intro _; show (0 : Int) < 1; decide
    | succ m ih =>
      intro h
      have h1 := ih (fun j hj => h j (by omega))
      have h2 := h m (by omega)
      show 32 * zwI f a m + (f (a + m) - 96) < (32 : Int) ^ (m + 1)
      rw [Int.pow_succ]
      generalize (32 : Int) ^ m = q at h1 ⊢
      omega
  have h1 := key m h
  have h2 : (32 : Int) ^ m ≤ (32 : Int) ^ 8 := by
    have : ∀ m : Nat, m < 9 → (32 : Int) ^ m ≤ (32 : Int) ^ 8 := by decide
    exact this m (by omega)
  have h3 : (32 : Int) ^ 8 = 1099511627776 := by decide
  omega
/-- the number of a text's word -/
def zwk (w : Int) : Int := if w = 4262 then 5 else if w = 19513 then 6 else if w = 609900110 then 7 else if w = 294 then 8 else if w = 176741 then 9 else if w = 24388997 then 10 else 4
/-- where the token at a ends -/
noncomputable def zte (B : Nat → Int32) (n : Nat) (a : Int) : Int := if zLt B n a then zend (zLt B n) n a else if zDg B n a then zend (zDg B n) n a else @ite _ (zsg (zby B n a)) (Classical.propDecidable _) (a + 1) a
noncomputable def zka (B : Nat → Int32) (n : Nat) (a : Int) : Int := if (n : Int) ≤ a then 0 else if zLt B n a then (if zte B n a - a > 8 then 1 else if zte B n a - a = 1 then (if zby B n a ≤ 104 then 3 else 1) else zwk (zwI (zby B n) a (zte B n a - a).toNat)) else if zDg B n a then (if zte B n a - a > 5 then 1 else 2) else @ite _ (zsg (zby B n a)) (Classical.propDecidable _) (zby B n a) 1
/-- how many bytes the token at a has; 0: it is none -/
noncomputable def zwa (B : Nat → Int32) (n : Nat) (a : Int) : Int := if (zLt B n a = true ∧ zte B n a - a > 8) ∨ (zDg B n a = true ∧ zte B n a - a > 5) then 0 else zte B n a - a
noncomputable def zpo (B : Nat → Int32) (n : Nat) : Nat → Int
  | 0 => zend (zBl B n) n 0
  | t + 1 => zend (zBl B n) n (zte B n (zpo B n t))
noncomputable def zTo (B : Nat → Int32) (n : Nat) : zTS := (fun t => zka B n (zpo B n t), fun t => zpo B n t, fun t => zwI (zby B n) (zpo B n t) (zte B n (zpo B n t) - zpo B n t).toNat)
theorem zte_le (B : Nat → Int32) (n : Nat) (a : Int) : a ≤ zte B n a := by
  unfold zte
  split
  · exact zend_le _ _ _
  · split
    · exact zend_le _ _ _
    · split <;> omega
theorem zLt_lt {B : Nat → Int32} {n : Nat} {a : Int} (h : zLt B n a = true) : 0 ≤ a ∧ a < n := zby_lt (B := B) (n := n) (by have := of_decide_eq_true h; omega)
theorem zDg_lt {B : Nat → Int32} {n : Nat} {a : Int} (h : zDg B n a = true) : 0 ≤ a ∧ a < n := zby_lt (B := B) (n := n) (by have := of_decide_eq_true h; omega)
theorem zsg_lt {B : Nat → Int32} {n : Nat} {a : Int} (h : zsg (zby B n a)) : 0 ≤ a ∧ a < n := zby_lt (B := B) (n := n) (by unfold zsg at h; omega)
theorem zte_n {B : Nat → Int32} {n : Nat} {a : Int} (h : a ≤ n) : zte B n a ≤ n := by
  unfold zte
  split
  · exact zend_n h
  · split
    · exact zend_n h
    · split
      · have := zsg_lt (B := B) (n := n) (a := a) (by assumption)
        omega
      · exact h
theorem zpo_n (B : Nat → Int32) (n : Nat) : ∀ t, 0 ≤ zpo B n t ∧ zpo B n t ≤ n
  | 0 => ⟨zend_le _ _ _, zend_n (by omega)⟩
  | t + 1 => by
    have h := zpo_n B n t
    have h1 := zte_le B n (zpo B n t)
    have h2 := zte_n (B := B) h.2
    have h3 := zend_le (zBl B n) n (zte B n (zpo B n t))
    have h4 := zend_n (p := zBl B n) h2
    exact ⟨by show 0 ≤ zend (zBl B n) n (zte B n (zpo B n t)); omega, h4⟩
theorem zpo_bl (B : Nat → Int32) (n : Nat) : ∀ t, zBl B n (zpo B n t) = false
  | 0 => zend_end zBl_n _
  | _ + 1 => zend_end zBl_n _
theorem zpo_s (B : Nat → Int32) (n t : Nat) : zte B n (zpo B n t) ≤ zpo B n (t + 1) := zend_le _ _ _
/-- a token has a byte at least -/
theorem zka_w {B : Nat → Int32} {n : Nat} {a : Int} (h0 : zka B n a ≠ 0) (h1 : zka B n a ≠ 1) : a + 1 ≤ zte B n a := by
  unfold zka at h0 h1
  by_cases c0 : (n : Int) ≤ a
  · rw [if_pos c0] at h0
    exact absurd rfl h0
  · rw [if_neg c0] at h0 h1
    unfold zte
    by_cases c1 : zLt B n a = true
    · rw [if_pos c1, zend_step zLt_n c1]
      exact zend_le _ _ _
    · rw [if_neg c1] at h0 h1 ⊢
      by_cases c2 : zDg B n a = true
      · rw [if_pos c2, zend_step zDg_n c2]
        exact zend_le _ _ _
      · rw [if_neg c2] at h0 h1 ⊢
        by_cases c3 : zsg (zby B n a)
        · rw [if_pos c3]
          omega
        · rw [if_neg c3] at h1
          exact absurd rfl h1
theorem zwk_r (w : Int) : 4 ≤ zwk w ∧ zwk w ≤ 10 := by
  unfold zwk
  repeat' (first | split | omega)
theorem zka_lt {B : Nat → Int32} {n : Nat} {a : Int} (h : zka B n a = 3 ∨ (4 ≤ zka B n a ∧ zka B n a ≤ 10)) : zLt B n a = true ∧ zte B n a - a ≤ 8 ∧ (zka B n a = 3 → zte B n a - a = 1 ∧ zby B n a ≤ 104) ∧ (zka B n a ≠ 3 → zte B n a - a ≠ 1 ∧ zka B n a = zwk (zwI (zby B n) a (zte B n a - a).toNat)) := by
  unfold zka at h ⊢
  by_cases c0 : (n : Int) ≤ a
  · rw [if_pos c0] at h
    omega
  · rw [if_neg c0] at h ⊢
    by_cases c1 : zLt B n a = true
    · rw [if_pos c1] at h ⊢
      by_cases c2 : zte B n a - a > 8
      · rw [if_pos c2] at h
        omega
      · rw [if_neg c2] at h ⊢
        by_cases c3 : zte B n a - a = 1
        · rw [if_pos c3] at h ⊢
          by_cases c4 : zby B n a ≤ 104
          · rw [if_pos c4]
            exact ⟨c1, by omega, fun _ => ⟨c3, c4⟩, fun h9 => absurd rfl h9⟩
          · rw [if_neg c4] at h
            omega
        · rw [if_neg c3] at h ⊢
          have := zwk_r (zwI (zby B n) a (zte B n a - a).toNat)
          exact ⟨c1, by omega, fun h9 => by omega, fun _ => ⟨c3, rfl⟩⟩
    · rw [if_neg c1] at h
      by_cases c2 : zDg B n a = true
      · rw [if_pos c2] at h
        split at h <;> omega
      · rw [if_neg c2] at h
        by_cases c3 : zsg (zby B n a)
        · rw [if_pos c3] at h
          unfold zsg at c3
          omega
        · rw [if_neg c3] at h
          omega
/-- a word's letters -/
theorem zte_let {B : Nat → Int32} {n : Nat} {a : Int} (h : zLt B n a = true) : zte B n a = zend (zLt B n) n a := if_pos h
theorem zword {B : Nat → Int32} {n : Nat} {a : Int} (h : zLt B n a = true) : ∀ j : Nat, j < (zte B n a - a).toNat → 97 ≤ zby B n (a + j) ∧ zby B n (a + j) ≤ 122 := fun j hj => by
  rw [zte_let h] at hj
  exact of_decide_eq_true (zend_in (p := zLt B n) (n := n) (a := a) (by omega) (by omega))
theorem zname_w {B : Nat → Int32} {n : Nat} {a : Int} (h : zka B n a = 4) : a + 2 ≤ zte B n a := by
  obtain ⟨h1, h2, h3, h4⟩ := zka_lt (Or.inr ⟨by omega, by omega⟩ : zka B n a = 3 ∨ (4 ≤ zka B n a ∧ zka B n a ≤ 10))
  have := zka_w (B := B) (n := n) (a := a) (by omega) (by omega)
  have := (h4 (by omega)).1
  omega
/-- two names, of one text or of two -/
theorem zname_eq {B B' : Nat → Int32} {n n' : Nat} {a b : Int} (ha : zka B n a = 4) (hb : zka B' n' b = 4) : zwI (zby B n) a (zte B n a - a).toNat = zwI (zby B' n') b (zte B' n' b - b).toNat ↔ (zte B n a - a = zte B' n' b - b ∧ ∀ j : Nat, j < (zte B n a - a).toNat → zby B n (a + j) = zby B' n' (b + j)) := by
  have h1 := (zka_lt (Or.inr ⟨by omega, by omega⟩ : zka B n a = 3 ∨ (4 ≤ zka B n a ∧ zka B n a ≤ 10))).1
  have h2 := (zka_lt (Or.inr ⟨by omega, by omega⟩ : zka B' n' b = 3 ∨ (4 ≤ zka B' n' b ∧ zka B' n' b ≤ 10))).1
  have g1 := zname_w ha
  have g2 := zname_w hb
  constructor
  · intro e
    obtain ⟨r1, r2⟩ := zwI_inj (zword h1) (zword h2) e
    exact ⟨by omega, r2⟩
  · rintro ⟨e1, e2⟩
    rw [← e1]
    exact zwI_cg e2
def zsq (k w : Int) : Int := if k ≤ w then 1 else 0
theorem zsq_1 {k w : Int} (h : k ≤ w) : zsq k w = 1 := if_pos h
theorem zsq_0 {k w : Int} (h : w < k) : zsq k w = 0 := if_neg (by omega)
/-- how many letters a word has, by its number -/
def zsz (w : Int) : Int := zsq 1 w + zsq 32 w + zsq 1024 w + zsq 32768 w + zsq 1048576 w + zsq 33554432 w + zsq 1073741824 w + zsq 34359738368 w
theorem zwI_bd {f : Int → Int} {a : Int} : ∀ m : Nat, (∀ j : Nat, j < m → 97 ≤ f (a + j) ∧ f (a + j) ≤ 122) → zwI f a m < (32 : Int) ^ m ∧ (1 ≤ m → (32 : Int) ^ (m - 1) ≤ zwI f a m)
  | 0, _ => ⟨by show (0 : Int) < 1; decide, fun h => by omega⟩
  | m + 1, h => by
    have h1 := zwI_bd m (fun j hj => h j (by omega))
    have h2 := h m (by omega)
    refine ⟨?_, fun _ => ?_⟩
    · show 32 * zwI f a m + (f (a + m) - 96) < (32 : Int) ^ (m + 1)
      rw [Int.pow_succ]
      have h3 := h1.1
      generalize (32 : Int) ^ m = q at h3 ⊢
      omega
    · show (32 : Int) ^ m ≤ 32 * zwI f a m + (f (a + m) - 96)
      cases m with
      | zero =>
        show (1 : Int) ≤ 32 * 0 + (f (a + ((0 : Nat) : Int)) - 96)
        omega
      | succ m =>
        have h3 := h1.2 (by omega)
        rw [show m + 1 - 1 = m by omega] at h3
        rw [Int.pow_succ]
        generalize (32 : Int) ^ m = q at h3 ⊢
        omega
theorem zsz_I {f : Int → Int} {a : Int} {m : Nat} (h : ∀ j : Nat, j < m → 97 ≤ f (a + j) ∧ f (a + j) ≤ 122) (hm : m ≤ 8) : zsz (zwI f a m) = m := by
  obtain ⟨h1, h2⟩ := zwI_bd m h
  generalize zwI f a m = w at h1 h2
  unfold zsz
  have hc : m = 0 ∨ m = 1 ∨ m = 2 ∨ m = 3 ∨ m = 4 ∨ m = 5 ∨ m = 6 ∨ m = 7 ∨ m = 8 := by omega
  rcases hc with rfl | rfl | rfl | rfl | rfl | rfl | rfl | rfl | rfl
  · have h1 : w < (1 : Int) := h1
    rw [zsq_0 (k := 1) (by omega), zsq_0 (k := 32) (by omega), zsq_0 (k := 1024) (by omega), zsq_0 (k := 32768) (by omega), zsq_0 (k := 1048576) (by omega), zsq_0 (k := 33554432) (by omega), zsq_0 (k := 1073741824) (by omega), zsq_0 (k := 34359738368) (by omega)]
    decide
  · have h1 : w < (32 : Int) := h1
    have h2 : (1 : Int) ≤ w := h2 (by decide)
    rw [zsq_1 (k := 1) (by omega), zsq_0 (k := 32) (by omega), zsq_0 (k := 1024) (by omega), zsq_0 (k := 32768) (by omega), zsq_0 (k := 1048576) (by omega), zsq_0 (k := 33554432) (by omega), zsq_0 (k := 1073741824) (by omega), zsq_0 (k := 34359738368) (by omega)]
    decide
  · have h1 : w < (1024 : Int) := h1
    have h2 : (32 : Int) ≤ w := h2 (by decide)
    rw [zsq_1 (k := 1) (by omega), zsq_1 (k := 32) (by omega), zsq_0 (k := 1024) (by omega), zsq_0 (k := 32768) (by omega), zsq_0 (k := 1048576) (by omega), zsq_0 (k := 33554432) (by omega), zsq_0 (k := 1073741824) (by omega), zsq_0 (k := 34359738368) (by omega)]
    decide
  · have h1 : w < (32768 : Int) := h1
    have h2 : (1024 : Int) ≤ w := h2 (by decide)
    rw [zsq_1 (k := 1) (by omega), zsq_1 (k := 32) (by omega), zsq_1 (k := 1024) (by omega), zsq_0 (k := 32768) (by omega), zsq_0 (k := 1048576) (by omega), zsq_0 (k := 33554432) (by omega), zsq_0 (k := 1073741824) (by omega), zsq_0 (k := 34359738368) (by omega)]
    decide
  · have h1 : w < (1048576 : Int) := h1
    have h2 : (32768 : Int) ≤ w := h2 (by decide)
    rw [zsq_1 (k := 1) (by omega), zsq_1 (k := 32) (by omega), zsq_1 (k := 1024) (by omega), zsq_1 (k := 32768) (by omega), zsq_0 (k := 1048576) (by omega), zsq_0 (k := 33554432) (by omega), zsq_0 (k := 1073741824) (by omega), zsq_0 (k := 34359738368) (by omega)]
    decide
  · have h1 : w < (33554432 : Int) := h1
    have h2 : (1048576 : Int) ≤ w := h2 (by decide)
    rw [zsq_1 (k := 1) (by omega), zsq_1 (k := 32) (by omega), zsq_1 (k := 1024) (by omega), zsq_1 (k := 32768) (by omega), zsq_1 (k := 1048576) (by omega), zsq_0 (k := 33554432) (by omega), zsq_0 (k := 1073741824) (by omega), zsq_0 (k := 34359738368) (by omega)]
    decide
  · have h1 : w < (1073741824 : Int) := h1
    have h2 : (33554432 : Int) ≤ w := h2 (by decide)
    rw [zsq_1 (k := 1) (by omega), zsq_1 (k := 32) (by omega), zsq_1 (k := 1024) (by omega), zsq_1 (k := 32768) (by omega), zsq_1 (k := 1048576) (by omega), zsq_1 (k := 33554432) (by omega), zsq_0 (k := 1073741824) (by omega), zsq_0 (k := 34359738368) (by omega)]
    decide
  · have h1 : w < (34359738368 : Int) := h1
    have h2 : (1073741824 : Int) ≤ w := h2 (by decide)
    rw [zsq_1 (k := 1) (by omega), zsq_1 (k := 32) (by omega), zsq_1 (k := 1024) (by omega), zsq_1 (k := 32768) (by omega), zsq_1 (k := 1048576) (by omega), zsq_1 (k := 33554432) (by omega), zsq_1 (k := 1073741824) (by omega), zsq_0 (k := 34359738368) (by omega)]
    decide
  · have h1 : w < (1099511627776 : Int) := h1
    have h2 : (34359738368 : Int) ≤ w := h2 (by decide)
    rw [zsq_1 (k := 1) (by omega), zsq_1 (k := 32) (by omega), zsq_1 (k := 1024) (by omega), zsq_1 (k := 32768) (by omega), zsq_1 (k := 1048576) (by omega), zsq_1 (k := 33554432) (by omega), zsq_1 (k := 1073741824) (by omega), zsq_1 (k := 34359738368) (by omega)]
    decide
theorem zwI_dg {f : Int → Int} {a : Int} : ∀ (j m : Nat), (∀ i : Nat, i < m → 97 ≤ f (a + i) ∧ f (a + i) ≤ 122) → j < m → zwI f a m / (32 : Int) ^ j % 32 = f (a + ((m - 1 - j : Nat) : Int)) - 96
  | 0, m + 1, h, _ => by
    have h2 := h m (by omega)
    show (32 * zwI f a m + (f (a + m) - 96)) / 1 % 32 = _
    rw [Int.ediv_one, show m + 1 - 1 - 0 = m by omega]
    omega
  | j + 1, m + 1, h, hj => by
    have h2 := h m (by omega)
    have ih := zwI_dg j m (fun i hi => h i (by omega)) (by omega)
    show (32 * zwI f a m + (f (a + m) - 96)) / (32 : Int) ^ (j + 1) % 32 = _
    rw [show (32 : Int) ^ (j + 1) = 32 * (32 : Int) ^ j from by rw [Int.pow_succ, Int.mul_comm], ← Int.ediv_ediv_of_nonneg (show (0 : Int) ≤ 32 by decide), show (32 * zwI f a m + (f (a + m) - 96)) / 32 = zwI f a m by omega, ih, show m + 1 - 1 - (j + 1) = m - 1 - j by omega]
  | _, 0, _, hj => by omega
/-- letter i of a word, by its number -/
def zdg (w i : Int) : Int := 96 + w / (32 : Int) ^ (zsz w - 1 - i).toNat % 32
theorem zdg_I {f : Int → Int} {a i : Int} {m : Nat} (h : ∀ j : Nat, j < m → 97 ≤ f (a + j) ∧ f (a + j) ≤ 122) (hm : m ≤ 8) (hi : 0 ≤ i ∧ i < m) : zdg (zwI f a m) i = f (a + i) := by
  unfold zdg
  rw [zsz_I h hm, show ((m : Int) - 1 - i).toNat = m - 1 - i.toNat by omega, zwI_dg (m - 1 - i.toNat) m h (by omega), show ((m - 1 - (m - 1 - i.toNat) : Nat) : Int) = i by omega]
  omega
