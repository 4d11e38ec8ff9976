/-! From where the reference stands to where the pure machine stands. -/
/-- the n-th line around l, + 1, or 0 -/
def zan (d : zDat) (l : Nat) : Nat → Nat
  | 0 => zro d l
  | n + 1 => match zan d l n with
    | 0 => 0
    | x + 1 => zro d x
theorem zan_0 {d : zDat} {l : Nat} (h : zro d l = 0) : ∀ n, zan d l n = 0
  | 0 => h
  | n + 1 => by
    unfold zan
    rw [zan_0 h n]
theorem zan_1 {d : zDat} {l a : Nat} (h : zro d l = a + 1) : ∀ n, zan d l (n + 1) = zan d a n
  | 0 => by
    show (match zan d l 0 with | 0 => 0 | x + 1 => zro d x) = _
    rw [show zan d l 0 = a + 1 from h]
    rfl
  | n + 1 => by
    have e := zan_1 h n
    show (match zan d l (n + 1) with | 0 => 0 | x + 1 => zro d x) = _
    rw [e]
    rfl
theorem zan_ro {d : zDat} {l l' : Nat} (h : zro d l' = zro d l) : ∀ n, zan d l' n = zan d l n
  | 0 => h
  | n + 1 => by
    unfold zan
    rw [zan_ro h n]
/-- the bits of all lines around l are set -/
def zcw (d : zDat) (cv : Int64) (l : Nat) : Prop := ∀ n a, zan d l n = a + 1 → cv ||| v_bit a = cv
theorem zcw_0 {d : zDat} {cv : Int64} {l : Nat} (h : zro d l = 0) : zcw d cv l := fun n a q => by rw [zan_0 h n] at q; omega
theorem zcw_ro {d : zDat} {cv : Int64} {l l' : Nat} (h : zcw d cv l) (e : zro d l' = zro d l) : zcw d cv l' := fun n a q => h n a (by rw [← zan_ro e]; exact q)
theorem zcw_up {d : zDat} {cv : Int64} {l a : Nat} (h : zcw d cv l) (e : zro d l = a + 1) : cv ||| v_bit a = cv ∧ zcw d cv a := ⟨h 0 a e, fun n b q => h (n + 1) b (by rw [zan_1 e]; exact q)⟩
theorem zcw_in {d : zDat} {cv : Int64} {l a : Nat} (e : zro d l = a + 1) (h0 : cv ||| v_bit a = cv) (h : zcw d cv a) : zcw d cv l := fun n b q => by
  cases n with
  | zero =>
    have q : zro d l = b + 1 := q
    rw [show b = a by omega]
    exact h0
  | succ n => exact h n b (by rw [← zan_1 e]; exact q)
/-- bits once set stay set -/
def zcm (cv cv' : Int64) : Prop := ∀ l, cv ||| v_bit l = cv → cv' ||| v_bit l = cv'
theorem zcm.rf {cv : Int64} : zcm cv cv := fun _ h => h
theorem zcm.trans {a b c : Int64} (h : zcm a b) (g : zcm b c) : zcm a c := fun l q => g l (h l q)
theorem z_or_self (a b : Int64) : (a ||| b) ||| b = a ||| b := by
  apply Int64.toBitVec_inj.mp
  show (a.toBitVec ||| b.toBitVec) ||| b.toBitVec = a.toBitVec ||| b.toBitVec
  rw [BitVec.or_assoc, BitVec.or_self]
theorem z_or_comm3 (a b c : Int64) : (a ||| b) ||| c = (a ||| c) ||| b := by
  apply Int64.toBitVec_inj.mp
  show (a.toBitVec ||| b.toBitVec) ||| c.toBitVec = (a.toBitVec ||| c.toBitVec) ||| b.toBitVec
  rw [BitVec.or_assoc, BitVec.or_comm b.toBitVec, ← BitVec.or_assoc]
theorem zcm.or {a b : Int64} : zcm a (a ||| b) := fun l h => by rw [z_or_comm3, h]
theorem zcm.self {a : Int64} {l : Nat} : (a ||| v_bit l) ||| v_bit l = a ||| v_bit l := z_or_self a _
theorem zcw.mv {d : zDat} {cv cv' : Int64} {l : Nat} (h : zcw d cv l) (h9 : zcm cv cv') : zcw d cv' l := fun n a q => h9 a (h n a q)
/-- turns: some, no more than 1400 a step and c -/
def zGo (R fuel : Int) (pg : zPg) (A : Nat → Nat × Int × Nat) (n : Nat) (c : Int) (m m' : zVm) : Prop := ∃ k : Nat, (k : Int) ≤ 1400 * (vst m' - vst m) + c ∧ v_run R fuel pg A n k m = m'
section
variable {R fuel : Int} {pg : zPg} {A : Nat → Nat × Int × Nat} {n : Nat}
theorem zGo.rf {c : Int} {m : zVm} (h : 0 ≤ c) : zGo R fuel pg A n c m m := ⟨0, by omega, rfl⟩
theorem zGo.trans {c c1 c2 : Int} {a b d : zVm} (h : zGo R fuel pg A n c a b) (g : zGo R fuel pg A n c1 b d) (hc : c + c1 ≤ c2) : zGo R fuel pg A n c2 a d := by
  obtain ⟨k, h1, h2⟩ := h
  obtain ⟨j, g1, g2⟩ := g
  exact ⟨k + j, by omega, by rw [v_run_add, h2]; exact g2⟩
theorem zGo.of {c : Int} {k : Nat} {a b : zVm} (h : v_run R fuel pg A n k a = b) (hk : (k : Int) ≤ 1400 * (vst b - vst a) + c) : zGo R fuel pg A n c a b := ⟨k, hk, h⟩
theorem zGo.w {c c1 : Int} {a b : zVm} (h : zGo R fuel pg A n c a b) (hc : c ≤ c1) : zGo R fuel pg A n c1 a b := by
  obtain ⟨k, h1, h2⟩ := h
  exact ⟨k, by omega, h2⟩
end
/-- as zbehind, with how many turns and what is known of bits -/
theorem zbehind2 {R fuel : Int} {pg : zPg} {T : zTS} {V : Nat → Int} {d : zDat} (hw : zWh d) (hK : zjk d) : ∀ (n l : Nat), l < n → l < zlc d → ∀ m : zVm, vgo m = true → vnx m = zqe d l → ∃ k p, k ≤ n ∧ v_run R fuel pg (zAa T V d) (zac d) k m = v_go m p ∧ ((zbh R d n l = 0 ∧ p < zac d ∧ zaf d p = (16, 0, 0)) ∨ (∃ r, zbh R d n l = r + 1 ∧ r < zlc d ∧ (∀ cv, zcw d cv l → zcw d cv r) ∧ ((p = zpa d r) ∨ (R ≠ 2 ∧ zkl d r = 4 ∧ p < zac d ∧ zaf d p = (14, zpa d r + 1, r) ∧ ztg d p = 0 ∧ ∀ cv, zcw d cv l → cv ||| v_bit r = cv))))
  | 0, _, h, _, _, _, _ => absurd h (Nat.not_lt_zero _)
  | n + 1, l, h, hl, m, hg, hm => by
    unfold zbh
    rcases hw.2.1 l hl with (⟨q, g1, -, g3, g4⟩ | ⟨g0, a, g1, -, g3, c⟩) | ⟨g0, g1, g2, g3⟩
    · refine ⟨0, vnx m, by omega, rfl, Or.inr ⟨q, ?_, g3, fun cv h9 => zcw_ro h9 ((hK l hl).2.1 q g1).2, Or.inl (by rw [hm, g4])⟩⟩
      rw [if_pos (by omega)]
      exact g1
    · have up : ∀ cv, zcw d cv l → cv ||| v_bit a = cv ∧ zcw d cv a := fun cv q => zcw_up q g1
      have lift : ∀ {k p : Nat} {m1 : zVm}, (∃ k p, k ≤ n ∧ v_run R fuel pg (zAa T V d) (zac d) k m1 = v_go m p ∧ ((zbh R d n a = 0 ∧ p < zac d ∧ zaf d p = (16, 0, 0)) ∨ (∃ r, zbh R d n a = r + 1 ∧ r < zlc d ∧ (∀ cv, zcw d cv a → zcw d cv r) ∧ ((p = zpa d r) ∨ (R ≠ 2 ∧ zkl d r = 4 ∧ p < zac d ∧ zaf d p = (14, zpa d r + 1, r) ∧ ztg d p = 0 ∧ ∀ cv, zcw d cv a → cv ||| v_bit r = cv))))) → ∀ k1, k1 ≤ 1 → v_run R fuel pg (zAa T V d) (zac d) k1 m = m1 → ∃ k p, k ≤ n + 1 ∧ v_run R fuel pg (zAa T V d) (zac d) k m = v_go m p ∧ ((zbh R d n a = 0 ∧ p < zac d ∧ zaf d p = (16, 0, 0)) ∨ (∃ r, zbh R d n a = r + 1 ∧ r < zlc d ∧ (∀ cv, zcw d cv l → zcw d cv r) ∧ ((p = zpa d r) ∨ (R ≠ 2 ∧ zkl d r = 4 ∧ p < zac d ∧ zaf d p = (14, zpa d r + 1, r) ∧ ztg d p = 0 ∧ ∀ cv, zcw d cv l → cv ||| v_bit r = cv)))) := by
        rintro - - m1 ⟨k, p, k0, k1, k2⟩ j hj e
        refine ⟨j + k, p, by omega, by rw [v_run_add, e, k1], ?_⟩
        rcases k2 with k2 | ⟨r, q1, q2, q3, q4⟩
        · exact Or.inl k2
        · refine Or.inr ⟨r, q1, q2, fun cv h9 => q3 cv (up cv h9).2, ?_⟩
          rcases q4 with q4 | ⟨b1, b2, b3, b4, b5, b6⟩
          · exact Or.inl q4
          · exact Or.inr ⟨b1, b2, b3, b4, b5, fun cv h9 => b6 cv (up cv h9).2⟩
      rw [if_neg (by omega), g1]
      show ∃ k p, _ ∧ _ ∧ (((if zkl d a = 4 ∧ R ≠ 2 then a + 1 else zbh R d n a) = 0 ∧ _ ∧ _) ∨ ∃ r, (if zkl d a = 4 ∧ R ≠ 2 then a + 1 else zbh R d n a) = r + 1 ∧ _ ∧ _)
      rcases c with ⟨c1, -, c3, c4, c5, c6⟩ | ⟨c1, c2⟩
      · by_cases hR : R = 2
        · -- once only: on behind the while
          rw [if_neg (fun x => x.2 hR)]
          have e : v_run R fuel pg (zAa T V d) (zac d) 1 m = v_go m (zqe d a) := by
            rw [v_one hg (by rw [hm]; exact c3), hm]
            unfold zAa v_obey
            rw [c4, c5]
            simp [hR]
          exact lift (k := 0) (p := 0) (zbehind2 hw hK n a (by omega) (by omega) (v_go m (zqe d a)) hg rfl) 1 (Nat.le_refl _) e
        · rw [if_pos ⟨c1, hR⟩]
          exact ⟨0, vnx m, by omega, rfl, Or.inr ⟨a, rfl, by omega, fun cv h9 => (up cv h9).2, Or.inr ⟨hR, c1, by rw [hm]; exact c3, by rw [hm]; exact c4, by rw [hm]; exact c6, fun cv h9 => (up cv h9).1⟩⟩⟩
      · rw [if_neg (fun x => by have := x.1; omega)]
        rcases c2 with c2 | ⟨-, c3, c4, c5⟩
        · exact lift (k := 0) (p := 0) (zbehind2 hw hK n a (by omega) (by omega) m hg (by rw [hm, c2])) 0 (by omega) rfl
        · have e : v_run R fuel pg (zAa T V d) (zac d) 1 m = v_go m (zqe d a) := by
            rw [v_one hg (by rw [hm]; exact c3), hm]
            have e1 : zKn T V d (zqe d l) = (zqe d a : Int) := by
              unfold zKn znu
              rw [if_neg (by rw [c4]; decide), if_neg (by omega), c5]
              omega
            unfold zAa v_obey
            rw [e1]
            simp only [c4]
            simp [v_go_go]
          exact lift (k := 0) (p := 0) (zbehind2 hw hK n a (by omega) (by omega) (v_go m (zqe d a)) hg rfl) 1 (Nat.le_refl _) e
    · rw [if_neg (by omega), g1]
      exact ⟨0, vnx m, by omega, rfl, Or.inl ⟨rfl, by rw [hm]; exact g2, by rw [hm]; exact g3⟩⟩
