/-! The machine over acts: position, stack (top first), depth, places, backs; steps, covers, said, trace, deepest; end, value, going. -/
abbrev zVm : Type := (Nat × List Int32 × Nat × (Nat → Int32) × (Nat → Nat)) × (Int × Int64 × Nat × (Nat → Int32) × Nat × (Nat → Int32) × Nat) × (Int × Int32 × Bool)
def vnx (m : zVm) : Nat := m.1.1
def vsk (m : zVm) : List Int32 := m.1.2.1
def vdp (m : zVm) : Nat := m.1.2.2.1
def vpl (m : zVm) : Nat → Int32 := m.1.2.2.2.1
def vbk (m : zVm) : Nat → Nat := m.1.2.2.2.2
def vst (m : zVm) : Int := m.2.1.1
def vcv (m : zVm) : Int64 := m.2.1.2.1
def vsc (m : zVm) : Nat := m.2.1.2.2.1
def vsd (m : zVm) : Nat → Int32 := m.2.1.2.2.2.1
def vtc (m : zVm) : Nat := m.2.1.2.2.2.2.1
def vtr (m : zVm) : Nat → Int32 := m.2.1.2.2.2.2.2.1
def vmx (m : zVm) : Nat := m.2.1.2.2.2.2.2.2
def ven (m : zVm) : Int := m.2.2.1
def vvl (m : zVm) : Int32 := m.2.2.2.1
def vgo (m : zVm) : Bool := m.2.2.2.2
def vup {α : Type} (f : Nat → α) (i : Nat) (x : α) : Nat → α := fun j => if j = i then x else f j
def v_go (m : zVm) (p : Nat) : zVm := ((p, m.1.2), m.2)
def v_sk (m : zVm) (s : List Int32) : zVm := ((m.1.1, s, m.1.2.2), m.2)
/-- the stack holds 288 -/
def v_push (m : zVm) (x : Int32) : zVm := if (vsk m).length < 288 then v_sk m (x :: vsk m) else m
def v_pop (m : zVm) : zVm := v_sk m (vsk m).tail
def v_top (m : zVm) : Int32 := (vsk m).headD 0
def v_pl (m : zVm) (f : Nat → Int32) : zVm := ((m.1.1, m.1.2.1, m.1.2.2.1, f, m.1.2.2.2.2), m.2)
def v_stop (m : zVm) (e : Int) : zVm := (m.1, m.2.1, (e, vvl m, false))
def v_dp (m : zVm) (d : Nat) : zVm := ((m.1.1, m.1.2.1, d, m.1.2.2.2), m.2)
def v_bk (m : zVm) (f : Nat → Nat) : zVm := ((m.1.1, m.1.2.1, m.1.2.2.1, m.1.2.2.2.1, f), m.2)
def v_rec (m : zVm) (r : Int × Int64 × Nat × (Nat → Int32) × Nat × (Nat → Int32) × Nat) : zVm := (m.1, r, m.2.2)
/-- a step is spent -/
def v_spend (fuel : Int) (m : zVm) : zVm := if fuel ≤ vst m then v_stop m 1 else v_rec m (vst m + 1, m.2.1.2)
def v_note (m : zVm) (a b c d : Int32) : zVm := v_rec m (vst m, vcv m, vsc m, vsd m, vtc m + 1, (if vtc m < 400 then vup (vup (vup (vup (vtr m) (4 * vtc m) a) (4 * vtc m + 1) b) (4 * vtc m + 2) c) (4 * vtc m + 3) d else vtr m), vmx m)
def v_say (m : zVm) (x : Int32) : zVm := v_rec m (vst m, vcv m, vsc m + 1, (if vsc m < 60 then vup (vsd m) (vsc m) x else vsd m), vtc m, vtr m, vmx m)
/-- a place of the call that is going -/
def v_ix (m : zVm) (k : Int) : Int := ((vdp m : Int) - 1) * 8 + k
def v_get (m : zVm) (k : Int) : Int32 := if 0 ≤ v_ix m k ∧ v_ix m k < 64 then vpl m (v_ix m k).toNat else 0
def v_put (m : zVm) (k : Int) (x : Int32) : zVm := if 0 ≤ v_ix m k ∧ v_ix m k < 64 then v_pl m (vup (vpl m) (v_ix m k).toNat x) else m
/-- the program: how many functions, how many places a function has, which they are, its first act -/
abbrev zPg : Type := (Nat × (Nat → Nat)) × (Nat → Nat → Int) × (Nat → Nat)
/-- the last places of f take what lies on the stack -/
def v_tk1 (pg : zPg) (f n : Nat) (m : zVm) : zVm := v_put (v_pop m) (pg.2.1 f n) (v_top m)
def v_take (pg : zPg) (f : Nat) : Nat → zVm → zVm
  | 0, m => m
  | n + 1, m => v_take pg f n (v_tk1 pg f n m)
def v_room (m : zVm) : zVm := v_rec (v_pl (v_dp (v_bk m (vup (vbk m) (vdp m) (vnx m))) (vdp m + 1)) (fun j => if vdp m * 8 ≤ j ∧ j < vdp m * 8 + 8 then 0 else vpl m j)) (vst m, vcv m, vsc m, vsd m, vtc m, vtr m, Nat.max (vmx m) (vdp m + 1))
def v_enter (pg : zPg) (f : Int) (m : zVm) : zVm :=
  if 8 ≤ vdp m then v_stop m 2 else if 0 ≤ f ∧ f < pg.1.1 then v_go (v_take pg f.toNat (pg.1.2 f.toNat) (v_room m)) (pg.2.2 f.toNat) else m
def v_leave (w : Int32) (m : zVm) : zVm :=
  if vdp m ≤ 1 then ((m.1.1, m.1.2.1, vdp m - 1, m.1.2.2.2), m.2.1, (0, w, false))
  else v_push (v_go (v_dp m (vdp m - 1)) (vbk m (vdp m - 1))) w
def v_both (R : Int) (s : Nat) (a b : Int32) : Int32 :=
  if s = 3 then a + b else if s = 4 then (if R = 1 then b - a else a - b) else if s = 5 then (if R = 3 then a + b else a * b)
  else if s = 6 then (if a < b ∨ (R = 0 ∧ a = b) then 1 else 0) else if s = 7 then (if b < a then 1 else 0) else (if a = b then 1 else 0)
/-- a line's bit -/
def v_bit (l : Nat) : Int64 := (1 : Int64) <<< ((Int32.ofNat l).toInt64 &&& 63)
/-- one act -/
def v_obey (R fuel : Int) (pg : zPg) (x : Nat × Int × Nat) (m : zVm) : zVm :=
  if x.1 = 0 then (let m' := v_spend fuel m; if vgo m' then v_rec m' (vst m', vcv m' ||| v_bit x.2.2, m'.2.1.2.2) else m')
  else if x.1 = 1 then v_push m (Int32.ofInt x.2.1)
  else if x.1 = 2 then v_push m (v_get m x.2.1)
  else if x.1 = 9 then v_enter pg x.2.1 m
  else if x.1 = 10 then v_put (v_note (v_pop m) (Int32.ofNat x.2.2) (Int32.ofInt x.2.1) (v_get m x.2.1) (v_top m)) x.2.1 (v_top m)
  else if x.1 = 11 then v_note (v_say (v_pop m) (v_top m)) (Int32.ofNat x.2.2) (-1) 0 (v_top m)
  else if x.1 = 12 then v_leave (v_top m) (v_note (v_pop m) (Int32.ofNat x.2.2) (-1) 0 (v_top m))
  else if x.1 = 13 then (let m' := v_note (v_pop m) (Int32.ofNat x.2.2) (-1) 0 (v_top m); if v_top m = 0 then v_go m' x.2.1.toNat else m')
  else if x.1 = 14 then (if R = 2 then m else let m' := v_spend fuel m; if vgo m' then v_go m' x.2.1.toNat else m')
  else if x.1 = 15 then v_go m x.2.1.toNat
  else if x.1 = 16 then v_leave 0 m
  else v_push (v_pop (v_pop m)) (v_both R x.1 (v_top (v_pop m)) (v_top m))
/-- one turn: a row A of n acts -/
def v_turn (R fuel : Int) (pg : zPg) (A : Nat → Nat × Int × Nat) (n : Nat) (m : zVm) : zVm :=
  if vgo m = true ∧ vnx m < n then v_obey R fuel pg (A (vnx m)) (v_go m (vnx m + 1)) else m
def v_run (R fuel : Int) (pg : zPg) (A : Nat → Nat × Int × Nat) (n : Nat) : Nat → zVm → zVm
  | 0, m => m
  | k + 1, m => v_run R fuel pg A n k (v_turn R fuel pg A n m)
theorem v_run_add {R fuel : Int} {pg : zPg} {A : Nat → Nat × Int × Nat} {n : Nat} (a b : Nat) (m : zVm) : v_run R fuel pg A n (a + b) m = v_run R fuel pg A n b (v_run R fuel pg A n a m) := by
  induction a generalizing m with
  | zero => rw [Nat.zero_add]; rfl
  | succ a ih =>
    rw [Nat.succ_add]
    exact ih _
theorem v_run_stop {R fuel : Int} {pg : zPg} {A : Nat → Nat × Int × Nat} {n : Nat} {m : zVm} (h : vgo m = false) (k : Nat) : v_run R fuel pg A n k m = m := by
  induction k with
  | zero => rfl
  | succ k ih =>
    show v_run R fuel pg A n k (v_turn R fuel pg A n m) = m
    have e : v_turn R fuel pg A n m = m := if_neg (by rw [h]; exact fun x => absurd x.1 (by decide))
    rw [e, ih]
/-- two runs that stop are one -/
theorem v_run_det {R fuel : Int} {pg : zPg} {A : Nat → Nat × Int × Nat} {n a b : Nat} {m x y : zVm} (h : v_run R fuel pg A n a m = x) (h' : v_run R fuel pg A n b m = y) (hx : vgo x = false) (hy : vgo y = false) : x = y := by
  have e1 : v_run R fuel pg A n (a + b) m = x := by rw [v_run_add, h]; exact v_run_stop hx b
  have e2 : v_run R fuel pg A n (b + a) m = y := by rw [v_run_add, h']; exact v_run_stop hy a
  rw [Nat.add_comm b a] at e2
  exact e1.symm.trans e2
/-! The acts of a text as the machine obeys them. -/
def zAa (T : zTS) (V : Nat → Int) (d : zDat) (q : Nat) : Nat × Int × Nat := ((zaf d q).1, zKn T V d q, (zaf d q).2.2)
theorem v_one {R fuel : Int} {pg : zPg} {A : Nat → Nat × Int × Nat} {n : Nat} {m : zVm} (hg : vgo m = true) (hn : vnx m < n) : v_run R fuel pg A n 1 m = v_obey R fuel pg (A (vnx m)) (v_go m (vnx m + 1)) := by
  show v_turn R fuel pg A n m = _
  exact if_pos ⟨hg, hn⟩
theorem v_go_go {m : zVm} {p q : Nat} : v_go (v_go m p) q = v_go m q := rfl
theorem v_go_nx {m : zVm} {p : Nat} : vnx (v_go m p) = p := rfl
theorem v_go_vgo {m : zVm} {p : Nat} : vgo (v_go m p) = vgo m := rfl
theorem v_go_self {m : zVm} : v_go m (vnx m) = m := rfl
/-- what the reference finds behind a line: 0 nothing, else the line + 1 -/
def zbh (R : Int) (d : zDat) : Nat → Nat → Nat
  | 0, _ => 0
  | n + 1, l => if znl d l ≠ 0 then znl d l else match zro d l with
    | 0 => 0
    | a + 1 => if zkl d a = 4 ∧ R ≠ 2 then a + 1 else zbh R d n a
/-- from what comes behind a line to where the reference goes on -/
def zBh (R : Int) (d : zDat) (l p : Nat) : Prop := (zbh R d (l + 1) l = 0 ∧ p < zac d ∧ zaf d p = (16, 0, 0)) ∨ (∃ r, zbh R d (l + 1) l = r + 1 ∧ r < zlc d ∧ ((p = zpa d r) ∨ (R ≠ 2 ∧ zkl d r = 4 ∧ p < zac d ∧ zaf d p = (14, zpa d r + 1, r) ∧ ztg d p = 0)))
theorem zbh_mo {R : Int} {d : zDat} : ∀ (n k l : Nat), l < n → l < k → (∀ x, zro d x ≤ x) → zbh R d n l = zbh R d k l
  | 0, _, _, h, _, _ => absurd h (Nat.not_lt_zero _)
  | _, 0, _, _, h, _ => absurd h (Nat.not_lt_zero _)
  | n + 1, k + 1, l, h, h', hr => by
    unfold zbh
    by_cases c : znl d l ≠ 0
    · rw [if_pos c, if_pos c]
    · rw [if_neg c, if_neg c]
      have := hr l
      match hz : zro d l with
      | 0 => rfl
      | a + 1 =>
        show (if zkl d a = 4 ∧ R ≠ 2 then a + 1 else zbh R d n a) = (if zkl d a = 4 ∧ R ≠ 2 then a + 1 else zbh R d k a)
        rw [zbh_mo n k a (by omega) (by omega) hr]
theorem zbehind {R fuel : Int} {pg : zPg} {T : zTS} {V : Nat → Int} {d : zDat} (hw : zWh d) : ∀ (n l : Nat), l < n → l < zlc d → ∀ m : zVm, vgo m = true → vnx m = zqe d l → ∃ k p, v_run R fuel pg (zAa T V d) (zac d) k m = v_go m p ∧ ((zbh R d n l = 0 ∧ p < zac d ∧ zaf d p = (16, 0, 0)) ∨ (∃ r, zbh R d n l = r + 1 ∧ r < zlc d ∧ ((p = zpa d r) ∨ (R ≠ 2 ∧ zkl d r = 4 ∧ p < zac d ∧ zaf d p = (14, zpa d r + 1, r) ∧ ztg d p = 0))))
  | 0, _, h, _, _, _, _ => absurd h (Nat.not_lt_zero _)
  | n + 1, l, h, hl, m, hg, hm => by
    unfold zbh
    rcases hw.2.1 l hl with (⟨q, g1, -, g3, g4⟩ | ⟨g0, a, g1, -, g3, c⟩) | ⟨g0, g1, g2, g3⟩
    · refine ⟨0, vnx m, rfl, Or.inr ⟨q, ?_, g3, Or.inl (by rw [hm, g4])⟩⟩
      rw [if_pos (by omega)]
      exact g1
    · rw [if_neg (by omega), g1]
      show ∃ k p, _ ∧ (((if zkl d a = 4 ∧ R ≠ 2 then a + 1 else zbh R d n a) = 0 ∧ _ ∧ _) ∨ ∃ r, (if zkl d a = 4 ∧ R ≠ 2 then a + 1 else zbh R d n a) = r + 1 ∧ _ ∧ _)
      rcases c with ⟨c1, -, c3, c4, c5, c6⟩ | ⟨c1, c2⟩
      · by_cases hR : R = 2
        · -- once only: on behind the while
          rw [if_neg (fun x => x.2 hR)]
          have e : v_run R fuel pg (zAa T V d) (zac d) 1 m = v_go m (zqe d a) := by
            rw [v_one hg (by rw [hm]; exact c3), hm]
            unfold zAa v_obey
            rw [c4, c5]
            simp [hR]
          obtain ⟨k, p, k1, k2⟩ := zbehind hw n a (by omega) (by omega) (v_go m (zqe d a)) hg rfl
          exact ⟨1 + k, p, by rw [v_run_add, e, k1]; rfl, k2⟩
        · rw [if_pos ⟨c1, hR⟩]
          exact ⟨0, vnx m, rfl, Or.inr ⟨a, rfl, by omega, Or.inr ⟨hR, c1, by rw [hm]; exact c3, by rw [hm]; exact c4, by rw [hm]; exact c6⟩⟩⟩
      · rw [if_neg (fun x => by have := x.1; omega)]
        rcases c2 with c2 | ⟨-, c3, c4, c5⟩
        · exact zbehind hw n a (by omega) (by omega) m hg (by rw [hm, c2])
        · have e : v_run R fuel pg (zAa T V d) (zac d) 1 m = v_go m (zqe d a) := by
            rw [v_one hg (by rw [hm]; exact c3), hm]
            have e1 : zKn T V d (zqe d l) = (zqe d a : Int) := by
              unfold zKn znu
              rw [if_neg (by rw [c4]; decide), if_neg (by omega), c5]
              omega
            unfold zAa v_obey
            rw [e1]
            simp only [c4]
            simp [v_go_go]
          obtain ⟨k, p, k1, k2⟩ := zbehind hw n a (by omega) (by omega) (v_go m (zqe d a)) hg rfl
          exact ⟨1 + k, p, by rw [v_run_add, e, k1]; rfl, k2⟩
    · rw [if_neg (by omega), g1]
      exact ⟨0, vnx m, rfl, Or.inl ⟨rfl, by rw [hm]; exact g2, by rw [hm]; exact g3⟩⟩
/-- what an item does -/
def v_itm (R : Int) (pg : zPg) (T : zTS) (V : Nat → Int) (d : zDat) (e : Nat × Nat × Nat) (m : zVm) : zVm :=
  if e.1 = 0 then v_push m (Int32.ofInt (V e.2.1)) else if e.1 = 1 then v_push m (v_get m (T.2.2 e.2.1 - 1))
  else if e.1 = 5 then v_enter pg (zfi (zfind T.2.2 (znm d) (T.2.2 e.2.1) (zfc d))) m
  else v_push (v_pop (v_pop m)) (v_both R (zia e.1) (v_top (v_pop m)) (v_top m))
theorem v_item {R fuel : Int} {pg : zPg} {T : zTS} {V : Nat → Int} {d : zDat} {A l j : Nat} {m : zVm} (hO : zOw A d l) (hj : j < ztn d l - zfr d l) (he : (zitf d (zfr d l + j)).1 < 9) (hg : vgo m = true) (hm : vnx m = zpa d l + 1 + j) : v_run R fuel pg (zAa T V d) (zac d) 1 m = v_itm R pg T V d (zitf d (zfr d l + j)) (v_go m (vnx m + 1)) := by
  obtain ⟨⟨b1, b2, b3, b4⟩, b5, b6, b7⟩ := hO
  obtain ⟨c1, c2⟩ := b6 j hj
  have hE : zle d l = zpa d l + 1 + (ztn d l - zfr d l) := rfl
  rw [v_one hg (by omega), hm]
  unfold zAa zKn znu zcn
  rw [c1, c2]
  generalize zitf d (zfr d l + j) = e at he
  obtain ⟨s, t, u⟩ := e
  have he : s < 9 := he
  have hs : s = 0 ∨ s = 1 ∨ s = 2 ∨ s = 3 ∨ s = 4 ∨ s = 5 ∨ s = 6 ∨ s = 7 ∨ s = 8 := by omega
  rcases hs with h | h | h | h | h | h | h | h | h <;> (subst h; simp [v_obey, v_itm, zie, zia])
/-- a line's last act -/
theorem v_last {R fuel : Int} {pg : zPg} {T : zTS} {V : Nat → Int} {d : zDat} {A l : Nat} {m : zVm} (hO : zOw A d l) (hg : vgo m = true) (hm : vnx m = zle d l) : v_run R fuel pg (zAa T V d) (zac d) 1 m = v_obey R fuel pg (zAa T V d (zle d l)) (v_go m (zle d l + 1)) := by
  rw [v_one hg (by rw [hm]; exact hO.1.2.1), hm]
/-- a line's first act -/
theorem v_first {R fuel : Int} {pg : zPg} {T : zTS} {V : Nat → Int} {d : zDat} {A l : Nat} {m : zVm} (hO : zOw A d l) (hg : vgo m = true) (hm : vnx m = zpa d l) : v_run R fuel pg (zAa T V d) (zac d) 1 m = (let m' := v_spend fuel (v_go m (zpa d l + 1)); if vgo m' then v_rec m' (vst m', vcv m' ||| v_bit l, m'.2.1.2.2) else m') := by
  obtain ⟨⟨b1, b2, b3, b4⟩, b5, b6, b7⟩ := hO
  have hE : zle d l = zpa d l + 1 + (ztn d l - zfr d l) := rfl
  rw [v_one hg (by omega), hm]
  unfold zAa v_obey
  rw [b5.1]
  rfl
/-- a test that does not hold, one that holds -/
theorem v_test {R fuel : Int} {pg : zPg} {T : zTS} {V : Nat → Int} {d : zDat} {A l : Nat} {m : zVm} (hO : zOw A d l) (hk : zkl d l = 3 ∨ zkl d l = 4) (hg : vgo m = true) (hm : vnx m = zle d l) : ∃ q, v_run R fuel pg (zAa T V d) (zac d) 1 m = v_go (v_note (v_pop m) (Int32.ofNat l) (-1) 0 (v_top m)) q ∧ (v_top m ≠ 0 → ∃ b, zbo d l = b + 1 ∧ b < zlc d ∧ q = zpa d b) ∧ (v_top m = 0 → (zkl d l = 3 ∧ ∃ o, zot d l = o + 1 ∧ o < zlc d ∧ q = zpa d o) ∨ ((zkl d l = 4 ∨ zot d l = 0) ∧ q = zqe d l)) := by
  have h1 := v_last (R := R) (fuel := fuel) (pg := pg) (T := T) (V := V) hO hg hm
  obtain ⟨⟨b1, b2, b3, b4⟩, b5, b6, b7⟩ := hO
  rcases b7 with ⟨k, -⟩ | ⟨k, -⟩ | ⟨k, -⟩ | ⟨-, c1, -, b, c2, c3, c4, c5, c⟩
  · omega
  · omega
  · omega
  have ht : 0 < ztg d (zle d l) := by
    rcases c with ⟨-, -, g, -⟩ | ⟨-, o, -, -, -, -, -, g, -⟩ | ⟨-, g, -⟩ <;> omega
  have hn : zKn T V d (zle d l) = (ztg d (zle d l) : Int) - 1 := by
    unfold zKn znu
    rw [if_neg (by rw [c1]; exact (by decide : ¬ (13 : Nat) = 9)), if_neg (by omega)]
  have e : v_run R fuel pg (zAa T V d) (zac d) 1 m = (if v_top m = 0 then v_go (v_note (v_pop m) (Int32.ofNat l) (-1) 0 (v_top m)) (ztg d (zle d l) - 1) else v_go (v_note (v_pop m) (Int32.ofNat l) (-1) 0 (v_top m)) (zle d l + 1)) := by
    rw [h1]
    unfold zAa v_obey
    rw [hn]
    simp only [c1]
    have e2 : ((ztg d (zle d l) : Int) - 1).toNat = ztg d (zle d l) - 1 := by omega
    rw [e2]
    rfl
  by_cases c0 : v_top m = 0
  · refine ⟨ztg d (zle d l) - 1, by rw [e, if_pos c0], fun h => absurd c0 h, fun _ => ?_⟩
    rcases c with ⟨g1, g2, -⟩ | ⟨g1, o, g2, -, g4, -, -, g7, -⟩ | ⟨g1, -⟩
    · refine Or.inr ⟨Or.inr g2, ?_⟩
      unfold zqe
      rw [if_pos g1, if_pos g2]
    · exact Or.inl ⟨g1, o, g2, g4, by omega⟩
    · refine Or.inr ⟨Or.inl g1, ?_⟩
      unfold zqe
      rw [if_neg (by omega), if_pos g1]
  · exact ⟨zle d l + 1, by rw [e, if_neg c0], fun _ => ⟨b, c2, c4, c5.symm⟩, fun h => absurd h c0⟩
/-- items' signs -/
def zsnR (d d' : zDat) : Prop := zic d ≤ zic d' ∧ (∀ k, k < zic d → zitf d' k = zitf d k) ∧ ∀ k, zic d ≤ k → k < zic d' → (zitf d' k).1 < 9
theorem zsnR.rf {d : zDat} : zsnR d d := ⟨Nat.le_refl _, fun _ _ => rfl, fun k h1 h2 => by omega⟩
theorem zsnR.trans {a b c : zDat} (h : zsnR a b) (g : zsnR b c) : zsnR a c := by
  obtain ⟨h1, h2, h3⟩ := h
  obtain ⟨g1, g2, g3⟩ := g
  refine ⟨by omega, fun k hk => ?_, fun k q0 q1 => ?_⟩
  · rw [g2 k (by omega), h2 k hk]
  · by_cases c : k < zic b
    · rw [g2 k c]; exact h3 k q0 c
    · exact g3 k (by omega) q1
theorem zsnR.eq {d d' : zDat} (h1 : zic d' = zic d) (h2 : zitf d' = zitf d) : zsnR d d' := ⟨by omega, fun k _ => by rw [h2], fun k q0 q1 => by omega⟩
theorem zsnR.em {d : zDat} {s i m : Nat} (h : s < 9) : zsnR d (zemi d s i m) := by
  have h1 : zic (zemi d s i m) = zic d + 1 := za_zic_emi
  have h2 : zitf (zemi d s i m) = zup (zitf d) (zic d) (s, i, m) := za_zitf_emi
  refine ⟨by omega, fun k hk => by rw [h2, zup_ne _ _ (by omega)], fun k q0 q1 => ?_⟩
  rw [h2, show k = zic d by omega, zup_self]
  exact h
theorem zsgn_9 {k : Int} : zsgn k < 9 := by
  unfold zsgn
  split
  · decide
  · split <;> decide
/-- every awaited operation is one -/
def zsnP (z : zSy) : Prop := z.1 = 23 → z.2.1 < 9
theorem zsn_st {T : zTS} (y a b m i : Nat) (d : zDat) (κ' : List zSy) (i' : Nat) (d' : zDat) (hP : zsnP (y, a, b, m)) (h : zst T y a b m [] i d = .inl (κ', i', d')) : (∀ z ∈ κ', zsnP z) ∧ zsnR d d' := by
  unfold zst at h
  split at h
  all_goals (try split at h)
  all_goals (try split at h)
  all_goals (try split at h)
  all_goals (try split at h)
  all_goals (try split at h)
  all_goals (first | (cases h; done) | (injection h with h; injection h with h1 h2; injection h2 with h2 h3; subst h1; subst h2; subst h3; exact ⟨by simp [zsnP, zsgn_9], zsnR.eq rfl rfl⟩) | (injection h with h; injection h with h1 h2; injection h2 with h2 h3; subst h1; subst h2; subst h3; exact ⟨by simp [zsnP, zsgn_9] <;> (try split) <;> decide, zsnR.eq rfl rfl⟩) | (injection h with h; injection h with h1 h2; injection h2 with h2 h3; subst h1; subst h2; subst h3; exact ⟨by simp [zsnP, zsgn_9], zsnR.em (by decide)⟩) | (injection h with h; injection h with h1 h2; injection h2 with h2 h3; subst h1; subst h2; subst h3; exact ⟨by simp [zsnP, zsgn_9], (zsnR.eq rfl rfl).trans (zsnR.em (d := zaddc _ _) (by decide))⟩) | (injection h with h; injection h with h1 h2; injection h2 with h2 h3; subst h1; subst h2; subst h3; exact ⟨by simp [zsnP, zsgn_9], zsnR.em (hP rfl)⟩) | (injection h with h; injection h with h1 h2; injection h2 with h2 h3; subst h1; subst h2; subst h3; exact ⟨by simp [zsnP, zsgn_9], zsnR.eq rfl rfl⟩))
theorem zit_clS {T : zTS} {P : zSy → Prop} {R : zDat → zDat → Prop} (hrf : ∀ d, R d d) (htr : ∀ a b c, R a b → R b c → R a c) (hst : ∀ (y a b m i : Nat) (d : zDat) (κ' : List zSy) (i' : Nat) (d' : zDat), P (y, a, b, m) → zst T y a b m [] i d = .inl (κ', i', d') → (∀ z ∈ κ', P z) ∧ R d d') : ∀ (n : Nat) (κ κ' : List zSy) (i i' : Nat) (d d' : zDat), (∀ z ∈ κ, P z) → zit T n (.inl (κ, i, d)) = .inl (κ', i', d') → R d d'
  | 0, κ, κ', i, i', d, d', _, h => by
    have h : (Sum.inl (κ, i, d) : zCf) = .inl (κ', i', d') := h
    injection h with h
    injection h with h1 h2
    injection h2 with h2 h3
    subst h3
    exact hrf d
  | n + 1, [], κ', i, i', d, d', hP, h => zit_clS hrf htr hst n [] κ' i i' d d' hP h
  | n + 1, (y, a, b, m) :: κ, κ', i, i', d, d', hP, h => by
    have h : zit T n (zst T y a b m κ i d) = .inl (κ', i', d') := h
    rw [zst_app] at h
    match hq : zst T y a b m [] i d, h with
    | .inr k, h =>
      exfalso
      have e : ∀ n, zit T n (.inr k) = .inr k := fun n => zit_fix rfl n
      have h : zit T n (.inr k) = .inl (κ', i', d') := h
      rw [e] at h
      cases h
    | .inl (κ1, i1, d1), h =>
      obtain ⟨h1, h2⟩ := hst y a b m i d κ1 i1 d1 (hP _ List.mem_cons_self) hq
      have h : zit T n (.inl (κ1 ++ κ, i1, d1)) = .inl (κ', i', d') := h
      refine htr _ _ _ h2 (zit_clS hrf htr hst n _ κ' i1 i' d1 d' (fun z hz => ?_) h)
      rcases List.mem_append.mp hz with hz | hz
      · exact h1 z hz
      · exact hP z (List.mem_cons_of_mem _ hz)
/-- of a text that was read to its end: signs -/
theorem zsn_of {T : zTS} {i : Nat} {d : zDat} (h : zRe T (.inl ([(1, 0, 0, 0), (0, 0, 0, 0)], 0, zd0)) (.inl ([], i, d))) : ∀ k, k < zic d → (zitf d k).1 < 9 := fun k hk => by
  obtain ⟨n, hn⟩ := h
  have h1 : zsnR zd0 d := zit_clS (P := zsnP) (R := zsnR) (fun _ => zsnR.rf) (fun _ _ _ h g => h.trans g) zsn_st n _ _ _ _ _ _ (by simp [zsnP]) hn
  exact h1.2.2 k (Nat.zero_le _) hk
