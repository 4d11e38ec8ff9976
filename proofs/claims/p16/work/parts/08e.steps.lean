/-! Reading a text, as steps over a row of things awaited. A stream of tokens: kinds, places, words. -/
abbrev zTS : Type := (Nat → Int) × (Nat → Int) × (Nat → Int)
/-- of a line: its first act, its first item, the item behind its last, the next line, the line around, the block's first line, the other block's (each one more, 0: none) -/
abbrev zRo : Type := Nat × Nat × Nat × Nat × Nat × Nat × Nat
/-- what comes out: acts (kind, token or number, line), where they lead (one more, 0: nowhere); items (sign, token, sums); lines; of a function its first act -/
abbrev zXt : Type := Nat × (Nat → Nat × Nat × Nat) × (Nat → Nat) × Nat × (Nat → Nat × Nat × Nat) × (Nat → zRo) × (Nat → Nat)
/-- what was read: functions, their names' tokens, how many places, the places; lines, of each kind, function, token, blocks; calls, of each the name's token, how many sums, the function that it stands in; of a function its first token, its first line; the token behind its last, the lines then -/
abbrev zDat : Type := Nat × (Nat → Nat) × (Nat → Nat) × (Nat → Nat → Int) × Nat × (Nat → Int × Nat × Nat × Nat) × List (Nat × Nat × Nat) × (Nat → Nat × Nat) × (Nat → Nat × Nat) × zXt
def zfc (d : zDat) : Nat := d.1
def znm (d : zDat) : Nat → Nat := d.2.1
def zpc (d : zDat) : Nat → Nat := d.2.2.1
def zpl (d : zDat) : Nat → Nat → Int := d.2.2.2.1
def zlc (d : zDat) : Nat := d.2.2.2.2.1
def zln (d : zDat) : Nat → Int × Nat × Nat × Nat := d.2.2.2.2.2.1
def zcs (d : zDat) : List (Nat × Nat × Nat) := d.2.2.2.2.2.2.1
def zff (d : zDat) : Nat → Nat × Nat := d.2.2.2.2.2.2.2.1
def zfe (d : zDat) : Nat → Nat × Nat := d.2.2.2.2.2.2.2.2.1
def zxd (d : zDat) : zXt := d.2.2.2.2.2.2.2.2.2
def zac (d : zDat) : Nat := (zxd d).1
def zaf (d : zDat) : Nat → Nat × Nat × Nat := (zxd d).2.1
def ztg (d : zDat) : Nat → Nat := (zxd d).2.2.1
def zic (d : zDat) : Nat := (zxd d).2.2.2.1
def zitf (d : zDat) : Nat → Nat × Nat × Nat := (zxd d).2.2.2.2.1
def zrw (d : zDat) : Nat → zRo := (zxd d).2.2.2.2.2.1
def zfa (d : zDat) : Nat → Nat := (zxd d).2.2.2.2.2.2
def zup {α : Type} (f : Nat → α) (i : Nat) (x : α) : Nat → α := fun j => if j = i then x else f j
theorem zup_self {α : Type} (f : Nat → α) (i : Nat) (x : α) : zup f i x i = x := if_pos rfl
theorem zup_ne {α : Type} (f : Nat → α) {i j : Nat} (x : α) (h : j ≠ i) : zup f i x j = f j := if_neg h
abbrev zSg : Type := Sum (Nat × zDat) Int
abbrev zSy : Type := Nat × Nat × Nat × Nat
abbrev zCf : Type := Sum (List zSy × Nat × zDat) Int
def zlk (k : Int) : Int := if k = 3 then 0 else if k = 6 then 1 else if k = 7 then 2 else if k = 8 then 3 else if k = 10 then 4 else -1
/-- the function of a name -/
def zfind (W : Nat → Int) (nm : Nat → Nat) (w : Int) : Nat → Option Nat
  | 0 => none
  | n + 1 => match zfind W nm w n with
    | some f => some f
    | none => if W (nm n) = w then some n else none
def zhas (pl : Nat → Int) (x : Int) (n : Nat) : Prop := ∃ j, j < n ∧ pl j = x
def zbeg (k : Int) : Prop := k = 2 ∨ k = 3 ∨ k = 4 ∨ k = 40
def zsX (d : zDat) (x : zXt) : zDat := (d.1, d.2.1, d.2.2.1, d.2.2.2.1, d.2.2.2.2.1, d.2.2.2.2.2.1, d.2.2.2.2.2.2.1, d.2.2.2.2.2.2.2.1, d.2.2.2.2.2.2.2.2.1, x)
/-- an act more, an item more; where act q leads; a line's row -/
def zxe (x : zXt) (e : Nat × Nat × Nat) : zXt := (x.1 + 1, zup x.2.1 x.1 e, zup x.2.2.1 x.1 0, x.2.2.2)
def zxi (x : zXt) (e : Nat × Nat × Nat) : zXt := (x.1, x.2.1, x.2.2.1, x.2.2.2.1 + 1, zup x.2.2.2.2.1 x.2.2.2.1 e, x.2.2.2.2.2)
def zxt (x : zXt) (q v : Nat) : zXt := (x.1, x.2.1, zup x.2.2.1 q (v + 1), x.2.2.2)
def zxr (x : zXt) (l : Nat) (r : zRo) : zXt := (x.1, x.2.1, x.2.2.1, x.2.2.2.1, x.2.2.2.2.1, zup x.2.2.2.2.2.1 l r, x.2.2.2.2.2.2)
/-- an item as an act: WHOLE, PLACE, ADD, TAKE, TIMES, CALL, LESS, MORE, SAME -/
def zia (s : Nat) : Nat := if s = 0 then 1 else if s = 1 then 2 else if s = 2 then 3 else if s = 3 then 4 else if s = 4 then 5 else if s = 5 then 9 else s
def zemi (d : zDat) (s i m : Nat) : zDat := zsX d (zxe (zxi (zxd d) (s, i, m)) (zia s, i, 0))
/-- the line's sum or test stands: its last act -/
def zende (d : zDat) (l : Nat) (e : Nat × Nat × Nat) : zDat := zsX d (zxe (zxr (zxd d) l ((zrw d l).1, (zrw d l).2.1, zic d, (zrw d l).2.2.2)) e)
def znext (d : zDat) (l n : Nat) : zDat := zsX d (zxr (zxd d) l ((zrw d l).1, (zrw d l).2.1, (zrw d l).2.2.1, n + 1, (zrw d l).2.2.2.2))
def zbody (d : zDat) (l n : Nat) : zDat := zsX d (zxr (zxd d) l ((zrw d l).1, (zrw d l).2.1, (zrw d l).2.2.1, (zrw d l).2.2.2.1, (zrw d l).2.2.2.2.1, n + 1, (zrw d l).2.2.2.2.2.2))
/-- the other block stands: JUMP q leads here -/
def zothr (d : zDat) (q l n : Nat) : zDat := zsX d (zxt (zxr (zxd d) l ((zrw d l).1, (zrw d l).2.1, (zrw d l).2.2.1, (zrw d l).2.2.2.1, (zrw d l).2.2.2.2.1, (zrw d l).2.2.2.2.2.1, n + 1)) q (zac d))
def ztgt (d : zDat) (q : Nat) : zDat := zsX d (zxt (zxd d) q (zac d))
/-- an act more, BRANCH q leads behind it -/
def zgo (d : zDat) (q : Nat) (e : Nat × Nat × Nat) : zDat := zsX d (zxt (zxe (zxd d) e) q (zac d + 1))
def zaddn (d : zDat) (t : Nat) : zDat := (d.1, zup d.2.1 d.1 t, d.2.2)
def zadd0 (d : zDat) : zDat := (d.1, d.2.1, zup d.2.2.1 d.1 0, d.2.2.2)
def zaddp (d : zDat) (x : Int) : zDat := (d.1, d.2.1, zup d.2.2.1 d.1 (d.2.2.1 d.1 + 1), zup d.2.2.2.1 d.1 (zup (d.2.2.2.1 d.1) (d.2.2.1 d.1) x), d.2.2.2.2)
def zaddl (d : zDat) (k : Int) (t n b : Nat) : zDat := (d.1, d.2.1, d.2.2.1, d.2.2.2.1, d.2.2.2.2.1 + 1, zup d.2.2.2.2.2.1 d.2.2.2.2.1 (k, d.1, t, n), d.2.2.2.2.2.2.1, d.2.2.2.2.2.2.2.1, d.2.2.2.2.2.2.2.2.1, zxe (zxr (zxd d) d.2.2.2.2.1 (zac d, zic d, 0, 0, b, 0, 0)) (0, 0, d.2.2.2.2.1))
def zaddc (d : zDat) (l : List (Nat × Nat × Nat)) : zDat := (d.1, d.2.1, d.2.2.1, d.2.2.2.1, d.2.2.2.2.1, d.2.2.2.2.2.1, d.2.2.2.2.2.2.1 ++ l, d.2.2.2.2.2.2.2)
def zaddf (d : zDat) (i : Nat) : zDat := (d.1 + 1, d.2.1, d.2.2.1, d.2.2.2.1, d.2.2.2.2.1, d.2.2.2.2.2.1, d.2.2.2.2.2.2.1, d.2.2.2.2.2.2.2.1, zup d.2.2.2.2.2.2.2.2.1 d.1 (i, d.2.2.2.2.1), zxe (zxd d) (16, 0, 0))
def zaddb (d : zDat) (t : Nat) : zDat := (d.1, d.2.1, d.2.2.1, d.2.2.2.1, d.2.2.2.2.1, d.2.2.2.2.2.1, d.2.2.2.2.2.2.1, zup d.2.2.2.2.2.2.2.1 d.1 (t, d.2.2.2.2.1), d.2.2.2.2.2.2.2.2.1, (zac d, zaf d, ztg d, zic d, zitf d, zrw d, zup (zfa d) d.1 (zac d)))
def zsgn (k : Int) : Nat := if k = 60 then 6 else if k = 62 then 7 else 8
noncomputable def zst (T : zTS) (y a b m : Nat) (κ : List zSy) (i : Nat) (d : zDat) : zCf := match y with
  | 0 => if T.1 i = 0 then .inl (κ, i, d) else .inl ((1, 0, 0, 0) :: (0, 0, 0, 0) :: κ, i, d)
  | 1 => if T.1 i = 5 then (if zfc d < 10 then .inl ((2, 0, 0, 0) :: (6, 40, 0, 0) :: (3, 0, 0, 0) :: (6, 41, 0, 0) :: (7, 1, 0, 0) :: (22, 0, 0, 0) :: κ, i + 1, zaddb d i) else .inr 3) else .inr 1
  | 2 => if T.1 i = 4 then (if zfind T.2.2 (znm d) (T.2.2 i) (zfc d) = none then .inl (κ, i + 1, zaddn d i) else .inr 2) else .inr 1
  | 3 => if T.1 i = 41 then .inl (κ, i, zadd0 d) else .inl ((4, 0, 0, 0) :: (5, 0, 0, 0) :: κ, i, zadd0 d)
  | 4 => if T.1 i = 3 then (@ite _ (zhas (zpl d (zfc d)) (T.2.2 i - 1) (zpc d (zfc d))) (Classical.propDecidable _) (.inr 2) (if zpc d (zfc d) < 3 then .inl (κ, i + 1, zaddp d (T.2.2 i - 1)) else .inr 3)) else .inr 1
  | 5 => if T.1 i = 44 then .inl ((4, 0, 0, 0) :: (5, 0, 0, 0) :: κ, i + 1, d) else .inl (κ, i, d)
  | 6 => if T.1 i = (a : Int) then .inl (κ, i + 1, d) else .inr 1
  | 7 => if T.1 i = 123 then (if a ≤ 6 then .inl ((8, a, b, 0) :: (9, a, b, zlc d) :: (6, 125, 0, 0) :: κ, i + 1, d) else .inr 3) else .inr 1
  | 8 => if zlk (T.1 i) = -1 then .inr 1 else if zlc d < 60 then
      (if T.1 i = 3 then .inl ((6, 61, 0, 0) :: (13, 0, 0, 0) :: (24, i, zlc d, 0) :: κ, i + 1, zaddl d (zlk (T.1 i)) i a b)
       else if T.1 i = 8 then .inl ((11, 0, 0, 0) :: (25, a, zlc d, 0) :: κ, i + 1, zaddl d (zlk (T.1 i)) i a b)
       else if T.1 i = 10 then .inl ((11, 0, 0, 0) :: (26, a, zlc d, zac d + 1) :: κ, i + 1, zaddl d (zlk (T.1 i)) i a b)
       else .inl ((13, 0, 0, 0) :: (24, 0, zlc d, (zlk (T.1 i)).toNat) :: κ, i + 1, zaddl d (zlk (T.1 i)) i a b)) else .inr 3
  | 9 => if T.1 i = 59 then .inl ((8, a, b, 0) :: (30, m, zlc d, 0) :: (9, a, b, zlc d) :: κ, i + 1, d) else .inl (κ, i, d)
  | 10 => if T.1 i = 9 then .inl ((7, a + 1, b + 1, 0) :: (28, zac d, b, zlc d) :: κ, i + 1, zgo d m (15, 0, b)) else .inl (κ, i, ztgt d m)
  | 11 => .inl ((13, 0, 0, 0) :: (12, 0, 0, 0) :: κ, i, d)
  | 12 => if T.1 i = 60 ∨ T.1 i = 62 ∨ T.1 i = 61 then .inl ((13, 0, 0, 0) :: (23, zsgn (T.1 i), 0, 0) :: κ, i + 1, d) else .inr 1
  | 13 => .inl ((15, a, 0, 0) :: (14, a, 0, 0) :: κ, i, d)
  | 14 => if T.1 i = 43 ∨ T.1 i = 45 then .inl ((15, a, 0, 0) :: (23, (if T.1 i = 43 then 2 else 3), 0, 0) :: (14, a, 0, 0) :: κ, i + 1, d) else .inl (κ, i, d)
  | 15 => .inl ((17, a, 0, 0) :: (16, a, 0, 0) :: κ, i, d)
  | 16 => if T.1 i = 42 then .inl ((17, a, 0, 0) :: (23, 4, 0, 0) :: (16, a, 0, 0) :: κ, i + 1, d) else .inl (κ, i, d)
  | 17 => if T.1 i = 2 then .inl (κ, i + 1, zemi d 0 i 0) else if T.1 i = 3 then .inl (κ, i + 1, zemi d 1 i 0) else if T.1 i = 40 then .inl ((18, a, 0, 0) :: (13, a + 1, 0, 0) :: (6, 41, 0, 0) :: κ, i, d)
      else if T.1 i = 4 then .inl ((18, a, 0, 0) :: (19, a, i, 0) :: κ, i + 1, d) else .inr 1
  | 18 => if T.1 i = 40 then (if a < 6 then .inl (κ, i + 1, d) else .inr 3) else .inr 1
  | 19 => if T.1 i = 41 then .inl ((6, 41, 0, 0) :: (21, b, 0, 0) :: κ, i, d) else .inl ((13, a + 1, 0, 0) :: (20, a, b, 1) :: κ, i, d)
  | 20 => if T.1 i = 44 then (if m < 3 then .inl ((13, a + 1, 0, 0) :: (20, a, b, m + 1) :: κ, i + 1, d) else @ite _ (zbeg (T.1 (i + 1))) (Classical.propDecidable _) (.inr 3) (.inr 1)) else .inl ((6, 41, 0, 0) :: (21, b, m, 0) :: κ, i, d)
  | 21 => .inl (κ, i, zemi (zaddc d [(a, b, zfc d)]) 5 a b)
  | 22 => .inl (κ, i, zaddf d i)
  | 23 => .inl (κ, i, zemi d a 0 0)
  | 24 => .inl (κ, i, zende d b (10 + m, a, b))
  | 25 => .inl ((7, a + 1, b + 1, 0) :: (29, b, zlc d, 0) :: (10, a, b, zac d) :: κ, i, zende d b (13, 0, b))
  | 26 => .inl ((7, a + 1, b + 1, 0) :: (29, b, zlc d, 0) :: (27, b, zac d, m) :: κ, i, zende d b (13, 0, b))
  | 27 => .inl (κ, i, zgo d b (14, m, a))
  | 28 => .inl (κ, i, zothr d a b m)
  | 29 => .inl (κ, i, zbody d a b)
  | 30 => .inl (κ, i, znext d a b)
  | _ => .inr 0
noncomputable def zstep (T : zTS) (c : zCf) : zCf := match c with
  | .inr k => .inr k
  | .inl ([], x) => .inl ([], x)
  | .inl ((y, a, b, m) :: κ, i, d) => zst T y a b m κ i d
noncomputable def zit (T : zTS) : Nat → zCf → zCf
  | 0, c => c
  | n + 1, c => zit T n (zstep T c)
def zRe (T : zTS) (a b : zCf) : Prop := ∃ n, zit T n a = b
theorem zit_add (T : zTS) (n m : Nat) (a : zCf) : zit T (n + m) a = zit T m (zit T n a) := by
  induction n generalizing a with
  | zero => rw [Nat.zero_add]; rfl
  | succ n ih =>
    rw [Nat.succ_add]
    exact ih (zstep T a)
theorem zRe.rf {T : zTS} {a : zCf} : zRe T a a := ⟨0, rfl⟩
theorem zRe.trans {T : zTS} {a b c : zCf} (h : zRe T a b) (h1 : zRe T b c) : zRe T a c := by
  obtain ⟨n, hn⟩ := h
  obtain ⟨m, hm⟩ := h1
  exact ⟨n + m, by rw [zit_add, hn, hm]⟩
theorem zRe.one {T : zTS} {a b : zCf} (h : zstep T a = b) : zRe T a b := ⟨1, h⟩
theorem zit_fix {T : zTS} {b : zCf} (h : zstep T b = b) (n : Nat) : zit T n b = b := by
  induction n with
  | zero => rfl
  | succ n ih =>
    show zit T n (zstep T b) = b
    rw [h]
    exact ih
theorem zRe.det {T : zTS} {a b c : zCf} (h : zRe T a b) (h1 : zRe T a c) (hb : zstep T b = b) (hc : zstep T c = c) : b = c := by
  obtain ⟨n, hn⟩ := h
  obtain ⟨m, hm⟩ := h1
  have e1 : zit T (n + m) a = b := by rw [zit_add, hn]; exact zit_fix hb m
  have e2 : zit T (m + n) a = c := by rw [zit_add, hm]; exact zit_fix hc n
  rw [Nat.add_comm m n] at e2
  exact e1.symm.trans e2
def zplug (κ : List zSy) (σ : zSg) : zCf := match σ with
  | .inl x => .inl (κ, x)
  | .inr k => .inr k
/-- from σ with Xs awaited to σ1 with Ys awaited -/
def zRc (T : zTS) (σ : zSg) (Xs : List zSy) (σ1 : zSg) (Ys : List zSy) : Prop := ∀ κ, zRe T (zplug (Xs ++ κ) σ) (zplug (Ys ++ κ) σ1)
theorem zRc.rf {T : zTS} {σ : zSg} {Xs : List zSy} : zRc T σ Xs σ Xs := fun _ => zRe.rf
theorem zRc.call {T : zTS} {σ σ1 σ2 : zSg} {Xs Ys : List zSy} {Y : zSy} (h : zRc T σ Xs σ1 (Y :: Ys)) (h1 : zRc T σ1 [Y] σ2 []) : zRc T σ Xs σ2 Ys := fun κ => (h κ).trans (h1 (Ys ++ κ))
theorem zRc.calls {T : zTS} {σ σ1 σ2 : zSg} {Xs Ys Zs : List zSy} {Y : zSy} (h : zRc T σ Xs σ1 (Y :: Ys)) (h1 : zRc T σ1 [Y] σ2 Zs) : zRc T σ Xs σ2 (Zs ++ Ys) := fun κ => by
  have := (h κ).trans (h1 (Ys ++ κ))
  rw [← List.append_assoc] at this
  exact this
theorem zRc.bad {T : zTS} {σ : zSg} {Xs Ys Zs : List zSy} {k : Int} (h : zRc T σ Xs (.inr k) Ys) : zRc T σ Xs (.inr k) Zs := h
def zkd (T : zTS) (N : Nat) (σ : zSg) : Int := match σ with
  | .inl x => T.1 x.1
  | .inr _ => T.1 (N - 1)
def zadv (σ : zSg) : zSg := match σ with
  | .inl (i, d) => .inl (i + 1, d)
  | .inr k => .inr k
def zfl (k : Int) (σ : zSg) : zSg := match σ with
  | .inl _ => .inr k
  | .inr q => .inr q
def zmap (f : Nat → zDat → zDat) (σ : zSg) : zSg := match σ with
  | .inl (i, d) => .inl (i, f i d)
  | .inr q => .inr q
/-- one step: the symbol on top is taken off, Zs come in its place -/
theorem zRc.st {T : zTS} {σ σ1 σ2 : zSg} {Xs Ys : List zSy} {y a b m : Nat} (h : zRc T σ Xs σ1 ((y, a, b, m) :: Ys)) (Zs : List zSy) (hb : ∀ k, σ1 = .inr k → σ2 = .inr k) (ho : ∀ i d κ, σ1 = .inl (i, d) → zst T y a b m κ i d = zplug (Zs ++ κ) σ2) : zRc T σ Xs σ2 (Zs ++ Ys) := fun κ => by
  refine (h κ).trans ?_
  match σ1, hb, ho with
  | .inr k, hb, _ => rw [hb k rfl]; exact zRe.rf
  | .inl (i, d), _, ho =>
    refine zRe.one ?_
    rw [List.append_assoc]
    exact ho i d (Ys ++ κ) rfl
section
variable {T : zTS} {N : Nat} {σ σ1 : zSg} {Xs Ys : List zSy} {a b m : Nat}
theorem zRc.funs0 (h : zRc T σ Xs σ1 ((0, 0, 0, 0) :: Ys)) (hk : zkd T N σ1 = 0) : zRc T σ Xs σ1 Ys := h.st [] (fun _ e => e) (fun i d κ e => by subst e; exact if_pos hk)
theorem zRc.funs1 (h : zRc T σ Xs σ1 ((0, 0, 0, 0) :: Ys)) (hk : zkd T N σ1 ≠ 0) : zRc T σ Xs σ1 ((1, 0, 0, 0) :: (0, 0, 0, 0) :: Ys) := h.st [(1, 0, 0, 0), (0, 0, 0, 0)] (fun _ e => e) (fun i d κ e => by subst e; exact if_neg hk)
theorem zRc.fun1 (h : zRc T σ Xs σ1 ((1, 0, 0, 0) :: Ys)) (hk : zkd T N σ1 ≠ 5) : zRc T σ Xs (zfl 1 σ1) Ys := h.st [] (fun _ e => by subst e; rfl) (fun i d κ e => by subst e; exact if_neg hk)
theorem zRc.fun3 (h : zRc T σ Xs σ1 ((1, 0, 0, 0) :: Ys)) (hk : zkd T N σ1 = 5) (hf : ∀ i d, σ1 = .inl (i, d) → 10 ≤ zfc d) : zRc T σ Xs (zfl 3 σ1) Ys := h.st [] (fun _ e => by subst e; rfl) (fun i d κ e => by have := hf i d e; subst e; exact (if_pos hk).trans (if_neg (by omega)))
theorem zRc.fun0 (h : zRc T σ Xs σ1 ((1, 0, 0, 0) :: Ys)) (hk : zkd T N σ1 = 5) (hf : ∀ i d, σ1 = .inl (i, d) → zfc d < 10) : zRc T σ Xs (zadv (zmap (fun i d => zaddb d i) σ1)) ((2, 0, 0, 0) :: (6, 40, 0, 0) :: (3, 0, 0, 0) :: (6, 41, 0, 0) :: (7, 1, 0, 0) :: (22, 0, 0, 0) :: Ys) := h.st [(2, 0, 0, 0), (6, 40, 0, 0), (3, 0, 0, 0), (6, 41, 0, 0), (7, 1, 0, 0), (22, 0, 0, 0)] (fun _ e => by subst e; rfl) (fun i d κ e => by have := hf i d e; subst e; exact (if_pos hk).trans (if_pos (by omega)))
theorem zRc.name1 (h : zRc T σ Xs σ1 ((2, 0, 0, 0) :: Ys)) (hk : zkd T N σ1 ≠ 4) : zRc T σ Xs (zfl 1 σ1) Ys := h.st [] (fun _ e => by subst e; rfl) (fun i d κ e => by subst e; exact if_neg hk)
theorem zRc.name2 (h : zRc T σ Xs σ1 ((2, 0, 0, 0) :: Ys)) (hk : zkd T N σ1 = 4) (hf : ∀ i d, σ1 = .inl (i, d) → zfind T.2.2 (znm d) (T.2.2 i) (zfc d) ≠ none) : zRc T σ Xs (zfl 2 σ1) Ys := h.st [] (fun _ e => by subst e; rfl) (fun i d κ e => by have := hf i d e; subst e; exact (if_pos hk).trans (if_neg this))
theorem zRc.name0 (h : zRc T σ Xs σ1 ((2, 0, 0, 0) :: Ys)) (hk : zkd T N σ1 = 4) (hf : ∀ i d, σ1 = .inl (i, d) → zfind T.2.2 (znm d) (T.2.2 i) (zfc d) = none) : zRc T σ Xs (zadv (zmap (fun i d => zaddn d i) σ1)) Ys := h.st [] (fun _ e => by subst e; rfl) (fun i d κ e => by have := hf i d e; subst e; exact (if_pos hk).trans (if_pos this))
theorem zRc.places0 (h : zRc T σ Xs σ1 ((3, 0, 0, 0) :: Ys)) (hk : zkd T N σ1 = 41) : zRc T σ Xs (zmap (fun _ d => zadd0 d) σ1) Ys := h.st [] (fun _ e => by subst e; rfl) (fun i d κ e => by subst e; exact if_pos hk)
theorem zRc.places1 (h : zRc T σ Xs σ1 ((3, 0, 0, 0) :: Ys)) (hk : zkd T N σ1 ≠ 41) : zRc T σ Xs (zmap (fun _ d => zadd0 d) σ1) ((4, 0, 0, 0) :: (5, 0, 0, 0) :: Ys) := h.st [(4, 0, 0, 0), (5, 0, 0, 0)] (fun _ e => by subst e; rfl) (fun i d κ e => by subst e; exact if_neg hk)
theorem zRc.place1 (h : zRc T σ Xs σ1 ((4, 0, 0, 0) :: Ys)) (hk : zkd T N σ1 ≠ 3) : zRc T σ Xs (zfl 1 σ1) Ys := h.st [] (fun _ e => by subst e; rfl) (fun i d κ e => by subst e; exact if_neg hk)
theorem zRc.place2 (h : zRc T σ Xs σ1 ((4, 0, 0, 0) :: Ys)) (hk : zkd T N σ1 = 3) (hf : ∀ i d, σ1 = .inl (i, d) → zhas (zpl d (zfc d)) (T.2.2 i - 1) (zpc d (zfc d))) : zRc T σ Xs (zfl 2 σ1) Ys := h.st [] (fun _ e => by subst e; rfl) (fun i d κ e => by have := hf i d e; subst e; exact (if_pos hk).trans (if_pos this))
theorem zRc.place3 (h : zRc T σ Xs σ1 ((4, 0, 0, 0) :: Ys)) (hk : zkd T N σ1 = 3) (hf : ∀ i d, σ1 = .inl (i, d) → ¬ zhas (zpl d (zfc d)) (T.2.2 i - 1) (zpc d (zfc d)) ∧ 3 ≤ zpc d (zfc d)) : zRc T σ Xs (zfl 3 σ1) Ys := h.st [] (fun _ e => by subst e; rfl) (fun i d κ e => by have := hf i d e; subst e; exact (if_pos hk).trans ((if_neg this.1).trans (if_neg (by omega))))
theorem zRc.place0 (h : zRc T σ Xs σ1 ((4, 0, 0, 0) :: Ys)) (hk : zkd T N σ1 = 3) (hf : ∀ i d, σ1 = .inl (i, d) → ¬ zhas (zpl d (zfc d)) (T.2.2 i - 1) (zpc d (zfc d)) ∧ zpc d (zfc d) < 3) : zRc T σ Xs (zadv (zmap (fun i d => zaddp d (T.2.2 i - 1)) σ1)) Ys := h.st [] (fun _ e => by subst e; rfl) (fun i d κ e => by have := hf i d e; subst e; exact (if_pos hk).trans ((if_neg this.1).trans (if_pos (by omega))))
theorem zRc.placeT1 (h : zRc T σ Xs σ1 ((5, 0, 0, 0) :: Ys)) (hk : zkd T N σ1 = 44) : zRc T σ Xs (zadv σ1) ((4, 0, 0, 0) :: (5, 0, 0, 0) :: Ys) := h.st [(4, 0, 0, 0), (5, 0, 0, 0)] (fun _ e => by subst e; rfl) (fun i d κ e => by subst e; exact if_pos hk)
theorem zRc.placeT0 (h : zRc T σ Xs σ1 ((5, 0, 0, 0) :: Ys)) (hk : zkd T N σ1 ≠ 44) : zRc T σ Xs σ1 Ys := h.st [] (fun _ e => e) (fun i d κ e => by subst e; exact if_neg hk)
theorem zRc.need1 (h : zRc T σ Xs σ1 ((6, a, 0, 0) :: Ys)) (hk : zkd T N σ1 = (a : Int)) : zRc T σ Xs (zadv σ1) Ys := h.st [] (fun _ e => by subst e; rfl) (fun i d κ e => by subst e; exact if_pos hk)
theorem zRc.need0 (h : zRc T σ Xs σ1 ((6, a, 0, 0) :: Ys)) (hk : zkd T N σ1 ≠ (a : Int)) : zRc T σ Xs (zfl 1 σ1) Ys := h.st [] (fun _ e => by subst e; rfl) (fun i d κ e => by subst e; exact if_neg hk)
theorem zRc.block1 (h : zRc T σ Xs σ1 ((7, a, b, 0) :: Ys)) (hk : zkd T N σ1 ≠ 123) : zRc T σ Xs (zfl 1 σ1) Ys := h.st [] (fun _ e => by subst e; rfl) (fun i d κ e => by subst e; exact if_neg hk)
theorem zRc.block3 (h : zRc T σ Xs σ1 ((7, a, b, 0) :: Ys)) (hk : zkd T N σ1 = 123) (ha : 6 < a) : zRc T σ Xs (zfl 3 σ1) Ys := h.st [] (fun _ e => by subst e; rfl) (fun i d κ e => by subst e; exact (if_pos hk).trans (if_neg (by omega)))
theorem zRc.block0 (h : zRc T σ Xs σ1 ((7, a, b, 0) :: Ys)) (hk : zkd T N σ1 = 123) (ha : a ≤ 6) {n : Nat} (hn : ∀ i d, σ1 = .inl (i, d) → zlc d = n) : zRc T σ Xs (zadv σ1) ((8, a, b, 0) :: (9, a, b, n) :: (6, 125, 0, 0) :: Ys) := h.st [(8, a, b, 0), (9, a, b, n), (6, 125, 0, 0)] (fun _ e => by subst e; rfl) (fun i d κ e => by have := hn i d e; subst e; subst this; exact (if_pos hk).trans (if_pos ha))
theorem zRc.line1 (h : zRc T σ Xs σ1 ((8, a, b, 0) :: Ys)) (hk : zlk (zkd T N σ1) = -1) : zRc T σ Xs (zfl 1 σ1) Ys := h.st [] (fun _ e => by subst e; rfl) (fun i d κ e => by subst e; exact if_pos hk)
theorem zRc.line3 (h : zRc T σ Xs σ1 ((8, a, b, 0) :: Ys)) (hk : zlk (zkd T N σ1) ≠ -1) (hf : ∀ i d, σ1 = .inl (i, d) → 60 ≤ zlc d) : zRc T σ Xs (zfl 3 σ1) Ys := h.st [] (fun _ e => by subst e; rfl) (fun i d κ e => by have := hf i d e; subst e; exact (if_neg hk).trans (if_neg (by omega)))
theorem zlk_0 {k : Int} (h : zlk k = 0) : k = 3 := by
  unfold zlk at h
  repeat' (first | split at h | omega)
theorem zlk_1 {k : Int} (h : zlk k = 1) : k = 6 := by
  unfold zlk at h
  repeat' (first | split at h | omega)
theorem zlk_2 {k : Int} (h : zlk k = 2) : k = 7 := by
  unfold zlk at h
  repeat' (first | split at h | omega)
theorem zlk_3 {k : Int} (h : zlk k = 3) : k = 8 := by
  unfold zlk at h
  repeat' (first | split at h | omega)
theorem zlk_4 {k : Int} (h : zlk k = 4) : k = 10 := by
  unfold zlk at h
  repeat' (first | split at h | omega)
theorem zRc.lineS (h : zRc T σ Xs σ1 ((8, a, b, 0) :: Ys)) (hk : zlk (zkd T N σ1) = 0) {n t : Nat} (hf : ∀ i d, σ1 = .inl (i, d) → zlc d < 60 ∧ zlc d = n) (ht : ∀ i d, σ1 = .inl (i, d) → i = t) : zRc T σ Xs (zadv (zmap (fun i d => zaddl d 0 i a b) σ1)) ((6, 61, 0, 0) :: (13, 0, 0, 0) :: (24, t, n, 0) :: Ys) := h.st [(6, 61, 0, 0), (13, 0, 0, 0), (24, t, n, 0)] (fun _ e => by subst e; rfl) (fun i d κ e => by
  obtain ⟨hf, hn⟩ := hf i d e
  obtain rfl := ht i d e
  subst e
  subst hn
  have e3 : T.1 i = 3 := zlk_0 hk
  refine (if_neg (by rw [e3]; decide)).trans ((if_pos (by omega)).trans ((if_pos e3).trans ?_))
  rw [e3]; rfl)
theorem zRc.lineI (h : zRc T σ Xs σ1 ((8, a, b, 0) :: Ys)) (hk : zlk (zkd T N σ1) = 3) {n : Nat} (hf : ∀ i d, σ1 = .inl (i, d) → zlc d < 60 ∧ zlc d = n) : zRc T σ Xs (zadv (zmap (fun i d => zaddl d 3 i a b) σ1)) ((11, 0, 0, 0) :: (25, a, n, 0) :: Ys) := h.st [(11, 0, 0, 0), (25, a, n, 0)] (fun _ e => by subst e; rfl) (fun i d κ e => by
  obtain ⟨hf, hn⟩ := hf i d e
  subst e
  subst hn
  have e3 : T.1 i = 8 := zlk_3 hk
  refine (if_neg (by rw [e3]; decide)).trans ((if_pos (by omega)).trans ((if_neg (by rw [e3]; decide)).trans ((if_pos e3).trans ?_)))
  rw [e3]; rfl)
theorem zRc.lineW (h : zRc T σ Xs σ1 ((8, a, b, 0) :: Ys)) (hk : zlk (zkd T N σ1) = 4) {n q : Nat} (hf : ∀ i d, σ1 = .inl (i, d) → zlc d < 60 ∧ zlc d = n) (hq : ∀ i d, σ1 = .inl (i, d) → zac d + 1 = q) : zRc T σ Xs (zadv (zmap (fun i d => zaddl d 4 i a b) σ1)) ((11, 0, 0, 0) :: (26, a, n, q) :: Ys) := h.st [(11, 0, 0, 0), (26, a, n, q)] (fun _ e => by subst e; rfl) (fun i d κ e => by
  obtain ⟨hf, hn⟩ := hf i d e
  have hq9 := hq i d e
  subst e
  subst hn
  subst hq9
  have e3 : T.1 i = 10 := zlk_4 hk
  refine (if_neg (by rw [e3]; decide)).trans ((if_pos (by omega)).trans ((if_neg (by rw [e3]; decide)).trans ((if_neg (by rw [e3]; decide)).trans ((if_pos e3).trans ?_))))
  rw [e3]; rfl)
theorem zRc.lineO {k : Int} (h : zRc T σ Xs σ1 ((8, a, b, 0) :: Ys)) (hk : zlk (zkd T N σ1) = k) (h12 : k = 1 ∨ k = 2) {n c : Nat} (hf : ∀ i d, σ1 = .inl (i, d) → zlc d < 60 ∧ zlc d = n) (hc : k = (c : Int)) : zRc T σ Xs (zadv (zmap (fun i d => zaddl d k i a b) σ1)) ((13, 0, 0, 0) :: (24, 0, n, c) :: Ys) := h.st [(13, 0, 0, 0), (24, 0, n, c)] (fun _ e => by subst e; rfl) (fun i d κ e => by
  obtain ⟨hf, hn⟩ := hf i d e
  subst e
  subst hn
  have e3 : T.1 i = 6 ∨ T.1 i = 7 := by
    rcases h12 with q | q
    · exact Or.inl (zlk_1 (hk.trans q))
    · exact Or.inr (zlk_2 (hk.trans q))
  have hk' : zlk (T.1 i) = k := hk
  refine (if_neg (by rcases e3 with e3 | e3 <;> rw [e3] <;> decide)).trans ((if_pos (by omega)).trans ((if_neg (by omega)).trans ((if_neg (by omega)).trans ((if_neg (by omega)).trans ?_))))
  rw [hk', show k.toNat = c by omega]; rfl)
theorem zRc.lineT1 (h : zRc T σ Xs σ1 ((9, a, b, m) :: Ys)) (hk : zkd T N σ1 = 59) {n : Nat} (hn : ∀ i d, σ1 = .inl (i, d) → zlc d = n) : zRc T σ Xs (zadv σ1) ((8, a, b, 0) :: (30, m, n, 0) :: (9, a, b, n) :: Ys) := h.st [(8, a, b, 0), (30, m, n, 0), (9, a, b, n)] (fun _ e => by subst e; rfl) (fun i d κ e => by have := hn i d e; subst e; subst this; exact if_pos hk)
theorem zRc.lineT0 (h : zRc T σ Xs σ1 ((9, a, b, m) :: Ys)) (hk : zkd T N σ1 ≠ 59) : zRc T σ Xs σ1 Ys := h.st [] (fun _ e => e) (fun i d κ e => by subst e; exact if_neg hk)
theorem zRc.else1 (h : zRc T σ Xs σ1 ((10, a, b, m) :: Ys)) (hk : zkd T N σ1 = 9) {q n : Nat} (hq : ∀ i d, σ1 = .inl (i, d) → zac d = q ∧ zlc d = n) : zRc T σ Xs (zadv (zmap (fun _ d => zgo d m (15, 0, b)) σ1)) ((7, a + 1, b + 1, 0) :: (28, q, b, n) :: Ys) := h.st [(7, a + 1, b + 1, 0), (28, q, b, n)] (fun _ e => by subst e; rfl) (fun i d κ e => by obtain ⟨h1, h2⟩ := hq i d e; subst e; subst h1; subst h2; exact if_pos hk)
theorem zRc.else0 (h : zRc T σ Xs σ1 ((10, a, b, m) :: Ys)) (hk : zkd T N σ1 ≠ 9) : zRc T σ Xs (zmap (fun _ d => ztgt d m) σ1) Ys := h.st [] (fun _ e => by subst e; rfl) (fun i d κ e => by subst e; exact if_neg hk)
theorem zRc.test (h : zRc T σ Xs σ1 ((11, 0, 0, 0) :: Ys)) : zRc T σ Xs σ1 ((13, 0, 0, 0) :: (12, 0, 0, 0) :: Ys) := h.st [(13, 0, 0, 0), (12, 0, 0, 0)] (fun _ e => e) (fun i d κ e => by subst e; rfl)
theorem zRc.sign1 (h : zRc T σ Xs σ1 ((12, 0, 0, 0) :: Ys)) (hk : zkd T N σ1 = 60 ∨ zkd T N σ1 = 62 ∨ zkd T N σ1 = 61) {s : Nat} (hs : zsgn (zkd T N σ1) = s) : zRc T σ Xs (zadv σ1) ((13, 0, 0, 0) :: (23, s, 0, 0) :: Ys) := h.st [(13, 0, 0, 0), (23, s, 0, 0)] (fun _ e => by subst e; rfl) (fun i d κ e => by subst e; subst hs; exact if_pos hk)
theorem zRc.sign0 (h : zRc T σ Xs σ1 ((12, 0, 0, 0) :: Ys)) (hk : ¬ (zkd T N σ1 = 60 ∨ zkd T N σ1 = 62 ∨ zkd T N σ1 = 61)) : zRc T σ Xs (zfl 1 σ1) Ys := h.st [] (fun _ e => by subst e; rfl) (fun i d κ e => by subst e; exact if_neg hk)
theorem zRc.sum (h : zRc T σ Xs σ1 ((13, a, 0, 0) :: Ys)) : zRc T σ Xs σ1 ((15, a, 0, 0) :: (14, a, 0, 0) :: Ys) := h.st [(15, a, 0, 0), (14, a, 0, 0)] (fun _ e => e) (fun i d κ e => by subst e; rfl)
theorem zRc.sumT1 (h : zRc T σ Xs σ1 ((14, a, 0, 0) :: Ys)) (hk : zkd T N σ1 = 43 ∨ zkd T N σ1 = 45) {s : Nat} (hs : (if zkd T N σ1 = 43 then 2 else 3) = s) : zRc T σ Xs (zadv σ1) ((15, a, 0, 0) :: (23, s, 0, 0) :: (14, a, 0, 0) :: Ys) := h.st [(15, a, 0, 0), (23, s, 0, 0), (14, a, 0, 0)] (fun _ e => by subst e; rfl) (fun i d κ e => by subst e; subst hs; exact if_pos hk)
theorem zRc.sumT0 (h : zRc T σ Xs σ1 ((14, a, 0, 0) :: Ys)) (hk : ¬ (zkd T N σ1 = 43 ∨ zkd T N σ1 = 45)) : zRc T σ Xs σ1 Ys := h.st [] (fun _ e => e) (fun i d κ e => by subst e; exact if_neg hk)
theorem zRc.term (h : zRc T σ Xs σ1 ((15, a, 0, 0) :: Ys)) : zRc T σ Xs σ1 ((17, a, 0, 0) :: (16, a, 0, 0) :: Ys) := h.st [(17, a, 0, 0), (16, a, 0, 0)] (fun _ e => e) (fun i d κ e => by subst e; rfl)
theorem zRc.termT1 (h : zRc T σ Xs σ1 ((16, a, 0, 0) :: Ys)) (hk : zkd T N σ1 = 42) : zRc T σ Xs (zadv σ1) ((17, a, 0, 0) :: (23, 4, 0, 0) :: (16, a, 0, 0) :: Ys) := h.st [(17, a, 0, 0), (23, 4, 0, 0), (16, a, 0, 0)] (fun _ e => by subst e; rfl) (fun i d κ e => by subst e; exact if_pos hk)
theorem zRc.termT0 (h : zRc T σ Xs σ1 ((16, a, 0, 0) :: Ys)) (hk : zkd T N σ1 ≠ 42) : zRc T σ Xs σ1 Ys := h.st [] (fun _ e => e) (fun i d κ e => by subst e; exact if_neg hk)
theorem zRc.partA0 (h : zRc T σ Xs σ1 ((17, a, 0, 0) :: Ys)) (hk : zkd T N σ1 = 2) : zRc T σ Xs (zadv (zmap (fun i d => zemi d 0 i 0) σ1)) Ys := h.st [] (fun _ e => by subst e; rfl) (fun i d κ e => by subst e; exact if_pos hk)
theorem zRc.partA1 (h : zRc T σ Xs σ1 ((17, a, 0, 0) :: Ys)) (hk : zkd T N σ1 = 3) : zRc T σ Xs (zadv (zmap (fun i d => zemi d 1 i 0) σ1)) Ys := h.st [] (fun _ e => by subst e; rfl) (fun i d κ e => by subst e; have e3 : T.1 i = 3 := hk; exact (if_neg (by omega)).trans (if_pos e3))
theorem zRc.partB (h : zRc T σ Xs σ1 ((17, a, 0, 0) :: Ys)) (hk : zkd T N σ1 = 40) : zRc T σ Xs σ1 ((18, a, 0, 0) :: (13, a + 1, 0, 0) :: (6, 41, 0, 0) :: Ys) := h.st [(18, a, 0, 0), (13, a + 1, 0, 0), (6, 41, 0, 0)] (fun _ e => e) (fun i d κ e => by
  subst e
  have e3 : T.1 i = 40 := hk
  exact (if_neg (by omega)).trans ((if_neg (by omega)).trans (if_pos e3)))
theorem zRc.partC (h : zRc T σ Xs σ1 ((17, a, 0, 0) :: Ys)) (hk : zkd T N σ1 = 4) {t : Nat} (ht : ∀ i d, σ1 = .inl (i, d) → i = t) : zRc T σ Xs (zadv σ1) ((18, a, 0, 0) :: (19, a, t, 0) :: Ys) := h.st [(18, a, 0, 0), (19, a, t, 0)] (fun _ e => by subst e; rfl) (fun i d κ e => by
  obtain rfl := ht i d e
  subst e
  have e3 : T.1 i = 4 := hk
  exact (if_neg (by omega)).trans ((if_neg (by omega)).trans ((if_neg (by omega)).trans (if_pos e3))))
theorem zRc.part1 (h : zRc T σ Xs σ1 ((17, a, 0, 0) :: Ys)) (hk : ¬ zbeg (zkd T N σ1)) : zRc T σ Xs (zfl 1 σ1) Ys := h.st [] (fun _ e => by subst e; rfl) (fun i d κ e => by
  subst e
  have e3 : ¬ (T.1 i = 2 ∨ T.1 i = 3 ∨ T.1 i = 4 ∨ T.1 i = 40) := hk
  exact (if_neg (by omega)).trans ((if_neg (by omega)).trans ((if_neg (by omega)).trans (if_neg (by omega)))))
theorem zRc.open1 (h : zRc T σ Xs σ1 ((18, a, 0, 0) :: Ys)) (hk : zkd T N σ1 ≠ 40) : zRc T σ Xs (zfl 1 σ1) Ys := h.st [] (fun _ e => by subst e; rfl) (fun i d κ e => by subst e; exact if_neg hk)
theorem zRc.open3 (h : zRc T σ Xs σ1 ((18, a, 0, 0) :: Ys)) (hk : zkd T N σ1 = 40) (ha : 6 ≤ a) : zRc T σ Xs (zfl 3 σ1) Ys := h.st [] (fun _ e => by subst e; rfl) (fun i d κ e => by subst e; exact (if_pos hk).trans (if_neg (by omega)))
theorem zRc.open0 (h : zRc T σ Xs σ1 ((18, a, 0, 0) :: Ys)) (hk : zkd T N σ1 = 40) (ha : a < 6) : zRc T σ Xs (zadv σ1) Ys := h.st [] (fun _ e => by subst e; rfl) (fun i d κ e => by subst e; exact (if_pos hk).trans (if_pos ha))
theorem zRc.sums0 (h : zRc T σ Xs σ1 ((19, a, b, 0) :: Ys)) (hk : zkd T N σ1 = 41) : zRc T σ Xs σ1 ((6, 41, 0, 0) :: (21, b, 0, 0) :: Ys) := h.st [(6, 41, 0, 0), (21, b, 0, 0)] (fun _ e => e) (fun i d κ e => by subst e; exact if_pos hk)
theorem zRc.sums1 (h : zRc T σ Xs σ1 ((19, a, b, 0) :: Ys)) (hk : zkd T N σ1 ≠ 41) : zRc T σ Xs σ1 ((13, a + 1, 0, 0) :: (20, a, b, 1) :: Ys) := h.st [(13, a + 1, 0, 0), (20, a, b, 1)] (fun _ e => e) (fun i d κ e => by subst e; exact if_neg hk)
theorem zRc.sumsT0 (h : zRc T σ Xs σ1 ((20, a, b, m) :: Ys)) (hk : zkd T N σ1 ≠ 44) : zRc T σ Xs σ1 ((6, 41, 0, 0) :: (21, b, m, 0) :: Ys) := h.st [(6, 41, 0, 0), (21, b, m, 0)] (fun _ e => e) (fun i d κ e => by subst e; exact if_neg hk)
theorem zRc.sumsT1 (h : zRc T σ Xs σ1 ((20, a, b, m) :: Ys)) (hk : zkd T N σ1 = 44) (hm : m < 3) : zRc T σ Xs (zadv σ1) ((13, a + 1, 0, 0) :: (20, a, b, m + 1) :: Ys) := h.st [(13, a + 1, 0, 0), (20, a, b, m + 1)] (fun _ e => by subst e; rfl) (fun i d κ e => by subst e; exact (if_pos hk).trans (if_pos hm))
theorem zRc.sumsT3 (h : zRc T σ Xs σ1 ((20, a, b, m) :: Ys)) (hk : zkd T N σ1 = 44) (hm : 3 ≤ m) (hb : zbeg (zkd T N (zadv σ1))) {Zs : List zSy} : zRc T σ Xs (zfl 3 (zadv σ1)) Zs := by
  have h1 : zRc T σ Xs (zfl 3 (zadv σ1)) ([] ++ Ys) := h.st [] (fun _ e => by subst e; rfl) (fun i d κ e => by subst e; exact (if_pos hk).trans ((if_neg (by omega)).trans (if_pos hb)))
  match σ1, h1 with
  | .inl (i, d), h1 => exact h1
  | .inr k, h1 => exact h1
theorem zRc.sumsT2 (h : zRc T σ Xs σ1 ((20, a, b, m) :: Ys)) (hk : zkd T N σ1 = 44) (hm : 3 ≤ m) (hb : ¬ zbeg (zkd T N (zadv σ1))) {Zs : List zSy} : zRc T σ Xs (zfl 1 (zadv σ1)) Zs := by
  have h1 : zRc T σ Xs (zfl 1 (zadv σ1)) ([] ++ Ys) := h.st [] (fun _ e => by subst e; rfl) (fun i d κ e => by subst e; exact (if_pos hk).trans ((if_neg (by omega)).trans (if_neg hb)))
  match σ1, h1 with
  | .inl (i, d), h1 => exact h1
  | .inr k, h1 => exact h1
theorem zRc.callE (h : zRc T σ Xs σ1 ((21, a, b, 0) :: Ys)) : zRc T σ Xs (zmap (fun _ d => zemi (zaddc d [(a, b, zfc d)]) 5 a b) σ1) Ys := h.st [] (fun _ e => by subst e; rfl) (fun i d κ e => by subst e; rfl)
theorem zRc.endf (h : zRc T σ Xs σ1 ((22, 0, 0, 0) :: Ys)) : zRc T σ Xs (zmap (fun i d => zaddf d i) σ1) Ys := h.st [] (fun _ e => by subst e; rfl) (fun i d κ e => by subst e; rfl)
theorem zRc.emit (h : zRc T σ Xs σ1 ((23, a, 0, 0) :: Ys)) : zRc T σ Xs (zmap (fun _ d => zemi d a 0 0) σ1) Ys := h.st [] (fun _ e => by subst e; rfl) (fun i d κ e => by subst e; rfl)
theorem zRc.ende (h : zRc T σ Xs σ1 ((24, a, b, m) :: Ys)) : zRc T σ Xs (zmap (fun _ d => zende d b (10 + m, a, b)) σ1) Ys := h.st [] (fun _ e => by subst e; rfl) (fun i d κ e => by subst e; rfl)
theorem zRc.ifs (h : zRc T σ Xs σ1 ((25, a, b, 0) :: Ys)) {q n : Nat} (hq : ∀ i d, σ1 = .inl (i, d) → zac d = q ∧ zlc d = n) : zRc T σ Xs (zmap (fun _ d => zende d b (13, 0, b)) σ1) ((7, a + 1, b + 1, 0) :: (29, b, n, 0) :: (10, a, b, q) :: Ys) := h.st [(7, a + 1, b + 1, 0), (29, b, n, 0), (10, a, b, q)] (fun _ e => by subst e; rfl) (fun i d κ e => by obtain ⟨h1, h2⟩ := hq i d e; subst e; subst h1; subst h2; rfl)
theorem zRc.whiles (h : zRc T σ Xs σ1 ((26, a, b, m) :: Ys)) {q n : Nat} (hq : ∀ i d, σ1 = .inl (i, d) → zac d = q ∧ zlc d = n) : zRc T σ Xs (zmap (fun _ d => zende d b (13, 0, b)) σ1) ((7, a + 1, b + 1, 0) :: (29, b, n, 0) :: (27, b, q, m) :: Ys) := h.st [(7, a + 1, b + 1, 0), (29, b, n, 0), (27, b, q, m)] (fun _ e => by subst e; rfl) (fun i d κ e => by obtain ⟨h1, h2⟩ := hq i d e; subst e; subst h1; subst h2; rfl)
theorem zRc.again (h : zRc T σ Xs σ1 ((27, a, b, m) :: Ys)) : zRc T σ Xs (zmap (fun _ d => zgo d b (14, m, a)) σ1) Ys := h.st [] (fun _ e => by subst e; rfl) (fun i d κ e => by subst e; rfl)
theorem zRc.othr (h : zRc T σ Xs σ1 ((28, a, b, m) :: Ys)) : zRc T σ Xs (zmap (fun _ d => zothr d a b m) σ1) Ys := h.st [] (fun _ e => by subst e; rfl) (fun i d κ e => by subst e; rfl)
theorem zRc.body (h : zRc T σ Xs σ1 ((29, a, b, 0) :: Ys)) : zRc T σ Xs (zmap (fun _ d => zbody d a b) σ1) Ys := h.st [] (fun _ e => by subst e; rfl) (fun i d κ e => by subst e; rfl)
theorem zRc.next (h : zRc T σ Xs σ1 ((30, a, b, 0) :: Ys)) : zRc T σ Xs (zmap (fun _ d => znext d a b) σ1) Ys := h.st [] (fun _ e => by subst e; rfl) (fun i d κ e => by subst e; rfl)
end
theorem zfl_bad (k : Int) (σ : zSg) : ∃ q, zfl k σ = .inr q := by
  match σ with
  | .inl x => exact ⟨k, rfl⟩
  | .inr q => exact ⟨q, rfl⟩
theorem zRc.any {T : zTS} {σ σ1 : zSg} {Xs Ys Zs : List zSy} {k : Int} (h : zRc T σ Xs (zfl k σ1) Ys) : zRc T σ Xs (zfl k σ1) Zs := by
  match σ1, h with
  | .inl x, h => exact h
  | .inr q, h => exact h
