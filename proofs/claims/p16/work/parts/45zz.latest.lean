/-! Between two steps: the latest run, as both hold it. -/
def zKm (Γ : Nat → Option Nat) (F : Nat → va_E) (th mo : Nat) (hs : Int32) (m m1 m2 : zVm) : Prop := (zfld F th 8 = .int hs ∧ zfld F mo 24 = .int hs) ∧ (hs.toInt ≠ 0 → (zEq m m1 ∧ zEq m2 m ∧ zLw m) ∧ (∃ lm, zfld F th 5 = .ref lm ∧ Γ lm = some 5 ∧ zVc F lm m1) ∧ ∃ lt, zfld F mo 22 = .ref lt ∧ Γ lt = some 12 ∧ zVt F lt m2)
def zKl (Γ : Nat → Option Nat) (F : Nat → va_E) (th mo : Nat) : Prop := zYn Γ F mo ∧ ∃ (hs : Int32) (m m1 m2 : zVm), zKm Γ F th mo hs m m1 m2
def zKoV (M : List Nat) : Prop := (∀ j, j < 19 → j < 10 ∨ 12 < j → 500 + j ∉ M) ∧ 10800 ∉ M ∧ 10900 ∉ M ∧ 11000 ∉ M ∧ 11100 ∉ M ∧ 11200 ∉ M
def zKoT (M : List Nat) : Prop := (1200 ∉ M ∧ 1201 ∉ M) ∧ (1202 ∉ M ∧ 1203 ∉ M ∧ 1204 ∉ M ∧ 1205 ∉ M ∧ 1206 ∉ M) ∧ 1207 ∉ M ∧ 1208 ∉ M ∧ 1209 ∉ M ∧ 16500 ∉ M ∧ 16600 ∉ M ∧ 16700 ∉ M
def zKoF (M : List Nat) : Prop := (1005 ∉ M ∧ 1422 ∉ M ∧ 1423 ∉ M) ∧ ∀ m ∈ zYr, m ∉ M
def zKo (M : List Nat) : Prop := (1008 ∉ M ∧ 1424 ∉ M) ∧ zKoF M ∧ zKoV M ∧ zKoT M
theorem zKm.fr {Γ : Nat → Option Nat} {k : Nat → ClassId} {L M : List Nat} {F u : Nat → va_E} {th mo : Nat} {hs : Int32} {m m1 m2 : zVm} (h : zKm Γ F th mo hs m m1 m2) (hI : zInv Γ k L F) (hf : zFr Γ M F u) (hth : Γ th = some 10) (hmo : Γ mo = some 14) (hM : zKo M) : zKm Γ u th mo hs m m1 m2 := by
  obtain ⟨⟨k1, k2⟩, g⟩ := h
  obtain ⟨⟨n1, n2⟩, ⟨⟨n3, n4, -⟩, -⟩, nv, nt⟩ := hM
  refine ⟨⟨hf.f hth 8 ⟨by decide, n1⟩ k1, hf.f hmo 24 ⟨by decide, n2⟩ k2⟩, fun h9 => ?_⟩
  obtain ⟨q1, ⟨lm, q2, q3, q4⟩, lt, q5, q6, q7⟩ := g h9
  exact ⟨q1, ⟨lm, hf.f hth 5 ⟨by decide, n3⟩ q2, q3, q4.fr hI q3 hf nv⟩, lt, hf.f hmo 22 ⟨by decide, n4⟩ q5, q6, q7.fr hI hf q6 nt⟩
theorem zKl.fr {Γ : Nat → Option Nat} {k : Nat → ClassId} {L M : List Nat} {F u : Nat → va_E} {th mo : Nat} (h : zKl Γ F th mo) (hI : zInv Γ k L F) (hf : zFr Γ M F u) (hth : Γ th = some 10) (hmo : Γ mo = some 14) (hM : zKo M) : zKl Γ u th mo := by
  obtain ⟨hy, hs, m, m1, m2, g⟩ := h
  exact ⟨hy.fr hf hmo ⟨⟨hM.2.1.1.2.1, hM.2.1.1.2.2⟩, hM.2.1.2⟩, hs, m, m1, m2, g.fr hI hf hth hmo hM⟩
/-- where other machines of the class ran -/
theorem zKl.upc {Γ : Nat → Option Nat} {k : Nat → ClassId} {L M X : List Nat} {F u : Nat → va_E} {th mo lm : Nat} (h : zKl Γ F th mo) (hI : zInv Γ k L F) (hf : zFr Γ M F u) (hth : Γ th = some 10) (hmo : Γ mo = some 14) (k5 : zfld F th 5 = .ref lm) (hX : zMa Γ F lm X) (hu : ∀ a ∈ X, u a = F a) (hM : (1008 ∉ M ∧ 1424 ∉ M) ∧ zKoF M ∧ zKoT M) : zKl Γ u th mo := by
  obtain ⟨hy, hs, m, m1, m2, ⟨k1, k2⟩, g⟩ := h
  obtain ⟨⟨n1, n2⟩, ⟨⟨n3, n4, n6⟩, n5⟩, nt⟩ := hM
  refine ⟨hy.fr hf hmo ⟨⟨n4, n6⟩, n5⟩, hs, m, m1, m2, ⟨hf.f hth 8 ⟨by decide, n1⟩ k1, hf.f hmo 24 ⟨by decide, n2⟩ k2⟩, fun h9 => ?_⟩
  obtain ⟨q1, ⟨lm9, q2, q3, q4⟩, lt, q5, q6, q7⟩ := g h9
  cases Value.ref.inj (k5.symm.trans q2)
  exact ⟨q1, ⟨lm, hf.f hth 5 ⟨by decide, n3⟩ q2, q3, q4.up hI hX hu⟩, lt, hf.f hmo 22 ⟨by decide, n4⟩ q5, q6, q7.fr hI hf q6 nt⟩
/-- where the reference's other Run ran -/
theorem zKl.upr {Γ : Nat → Option Nat} {k : Nat → ClassId} {L M Y : List Nat} {F u : Nat → va_E} {th mo lt : Nat} (h : zKl Γ F th mo) (hI : zInv Γ k L F) (hf : zFr Γ M F u) (hth : Γ th = some 10) (hmo : Γ mo = some 14) (k22 : zfld F mo 22 = .ref lt) (hY : zYm Γ F lt Y) (hu : ∀ a ∈ Y, u a = F a) (hM : (1008 ∉ M ∧ 1424 ∉ M) ∧ zKoF M ∧ zKoV M) : zKl Γ u th mo := by
  obtain ⟨hy, hs, m, m1, m2, ⟨k1, k2⟩, g⟩ := h
  obtain ⟨⟨n1, n2⟩, ⟨⟨n3, n4, n6⟩, n5⟩, nv⟩ := hM
  refine ⟨hy.fr hf hmo ⟨⟨n4, n6⟩, n5⟩, hs, m, m1, m2, ⟨hf.f hth 8 ⟨by decide, n1⟩ k1, hf.f hmo 24 ⟨by decide, n2⟩ k2⟩, fun h9 => ?_⟩
  obtain ⟨q1, ⟨lm, q2, q3, q4⟩, lt9, q5, q6, q7⟩ := g h9
  cases Value.ref.inj (k22.symm.trans q5)
  exact ⟨q1, ⟨lm, hf.f hth 5 ⟨by decide, n3⟩ q2, q3, q4.fr hI q3 hf nv⟩, lt, hf.f hmo 22 ⟨by decide, n4⟩ q5, q6, q7.up hI hY hu⟩
theorem zMa.sq {Γ : Nat → Option Nat} {F u : Nat → va_E} {ma : Nat} {X : List Nat} (h : zMa Γ F ma X) (hs : ∀ a t, Γ a = some t → t ∈ zS5 → t ≠ 10 → a ∈ X → u a = F a) : ∀ a ∈ X, u a = F a := fun a ha => by
  obtain ⟨t, ht, e, -⟩ := h.2.2 a ha
  have h9 : t ∈ [5, 108, 109, 110, 111, 112] := ht
  refine hs a t e ?_ ?_ ha
  · show t ∈ [5, 10, 108, 109, 110, 111, 112]
    simp only [List.mem_cons, List.not_mem_nil, or_false] at h9 ⊢
    omega
  · simp only [List.mem_cons, List.not_mem_nil, or_false] at h9
    omega
/-- a new program, or none -/
theorem zKl.prog {Γ : Nat → Option Nat} {k : Nat → ClassId} {L M M' : List Nat} {F u v : Nat → va_E} {th mo : Nat} {r1 r2 : Int32} (h : zKl Γ F th mo) (hI : zInv Γ k L F) (hI' : zInv Γ k L u) (hf : zFr Γ M F u) (hg : zFr Γ M' u v) (hth : Γ th = some 10) (hmo : Γ mo = some 14) (hM : 1424 ∉ M ∧ zKoF M ∧ zKoV M ∧ zKoT M) (hM' : 1008 ∉ M' ∧ zKoF M' ∧ zKoV M' ∧ zKoT M') (er : r1 = r2) (h1 : (r1.toInt = -1 ∧ zfld u th 8 = zfld F th 8) ∨ (r1.toInt ≠ -1 ∧ zfld u th 8 = .int 0)) (h2 : (r2.toInt = -1 ∧ zfld v mo 24 = zfld u mo 24) ∨ (r2.toInt ≠ -1 ∧ zfld v mo 24 = .int 0)) : zKl Γ v th mo := by
  subst er
  obtain ⟨hy, hs, m, m1, m2, ⟨k1, k2⟩, g⟩ := h
  obtain ⟨n2, ⟨⟨n3, n4, n6⟩, n5⟩, nv, nt⟩ := hM
  obtain ⟨p2, ⟨⟨p3, p4, p6⟩, p5⟩, pv, pt⟩ := hM'
  refine ⟨(hy.fr hf hmo ⟨⟨n4, n6⟩, n5⟩).fr hg hmo ⟨⟨p4, p6⟩, p5⟩, ?_⟩
  have e8 : zfld v th 8 = zfld u th 8 := (hg.1 th 10 hth).1 (by decide) 8 p2
  have e24 : zfld u mo 24 = zfld F mo 24 := (hf.1 mo 14 hmo).1 (by decide) 24 n2
  by_cases c : r1.toInt = -1
  · have a1 : zfld u th 8 = zfld F th 8 := h1.elim (fun q => q.2) (fun q => absurd c q.1)
    have a2 : zfld v mo 24 = zfld u mo 24 := h2.elim (fun q => q.2) (fun q => absurd c q.1)
    refine ⟨hs, m, m1, m2, ⟨e8.trans (a1.trans k1), a2.trans (e24.trans k2)⟩, fun h9 => ?_⟩
    obtain ⟨q1, ⟨lm, q2, q3, q4⟩, lt, q5, q6, q7⟩ := g h9
    exact ⟨q1, ⟨lm, hg.f hth 5 ⟨by decide, p3⟩ (hf.f hth 5 ⟨by decide, n3⟩ q2), q3, (q4.fr hI q3 hf nv).fr hI' q3 hg pv⟩, lt, hg.f hmo 22 ⟨by decide, p4⟩ (hf.f hmo 22 ⟨by decide, n4⟩ q5), q6, (q7.fr hI hf q6 nt).fr hI' hg q6 pt⟩
  · have a1 : zfld u th 8 = .int 0 := h1.elim (fun q => absurd q.1 c) (fun q => q.2)
    have a2 : zfld v mo 24 = .int 0 := h2.elim (fun q => absurd q.1 c) (fun q => q.2)
    exact ⟨0, m, m1, m2, ⟨e8.trans a1, a2⟩, fun h9 => absurd (by decide) h9⟩
/-- what a run covers -/
theorem zFx9.lw {R fuel : Int} {d : zDat} {T : zTS} {V : Nat → Int} {f : Int} {x y z : Int32} (hf : 0 ≤ f ∧ f < (zfc d : Int)) (hA : zAn (zAa T V d) (zac d)) : zLw (zFx9 R fuel d T V f x y z) := by
  refine zLw.run hA.2.2 4000000 ?_
  have h2 : vdp (v_cut (zpc d f.toNat) x y z (v_new0 (fun _ => 0) (fun _ => 0) (fun _ => 0) 0)) = 0 := zVz.cut.2.1.trans rfl
  have h3 : vmx (v_cut (zpc d f.toNat) x y z (v_new0 (fun _ => 0) (fun _ => 0) (fun _ => 0) 0)) = 0 ∧ vcv (v_cut (zpc d f.toNat) x y z (v_new0 (fun _ => 0) (fun _ => 0) (fun _ => 0) 0)) = 0 := by
    have a1 := zCM.push (m := v_new0 (fun _ => 0) (fun _ => 0) (fun _ => 0) 0) (x := x)
    have a2 := zCM.push (m := v_push (v_new0 (fun _ => 0) (fun _ => 0) (fun _ => 0) 0) x) (x := y)
    have a3 := zCM.push (m := v_push (v_push (v_new0 (fun _ => 0) (fun _ => 0) (fun _ => 0) 0) x) y) (x := z)
    refine ⟨?_, ((a1.tr a2).tr a3).1⟩
    have e : ∀ (m : zVm) (x : Int32), vmx (v_push m x) = vmx m := fun m x => by
      unfold v_push
      split <;> rfl
    show vmx (v_push (v_push (v_push (v_new0 (fun _ => 0) (fun _ => 0) (fun _ => 0) 0) x) y) z) = 0
    rw [e, e, e]
    rfl
  generalize v_cut (zpc d f.toNat) x y z (v_new0 (fun _ => 0) (fun _ => 0) (fun _ => 0) 0) = m at h2 h3
  have hfc : 0 ≤ f ∧ f < (((zPgd d).1.1 : Nat) : Int) := hf
  rw [zv_enter2 (by omega) hfc]
  have g := zCM.take (pg := zPgd d) (f := f.toNat) ((zPgd d).1.2 f.toNat) (v_room m)
  have g0 : v_tks (zPgd d) f.toNat ((zPgd d).1.2 f.toNat) ((zPgd d).1.2 f.toNat) (v_room m) = v_take (zPgd d) f.toNat ((zPgd d).1.2 f.toNat) (v_room m) := v_tks_all
  rw [g0]
  refine ⟨?_, ?_⟩
  · show zln9 (vcv (v_take (zPgd d) f.toNat ((zPgd d).1.2 f.toNat) (v_room m))) < 2 ^ 60
    rw [g.1]
    show zln9 (vcv m) < 2 ^ 60
    rw [h3.2]
    decide
  · show 1 ≤ vmx (v_take (zPgd d) f.toNat ((zPgd d).1.2 f.toNat) (v_room m))
    refine Nat.le_trans ?_ g.2
    show 1 ≤ Nat.max (vmx m) (vdp m + 1)
    exact Nat.le_trans (by omega) (Nat.le_max_right _ _)
/-- both ran, or both refused -/
theorem zKl.run {Γ : Nat → Option Nat} {k : Nat → ClassId} {L M M' X Y1 Y2 : List Nat} {F u v : Nat → va_E} {th mo lm lt wk : Nat} {O1 O2 : Prop} {R fuel f : Int} {d : zDat} {T : zTS} {V : Nat → Int} {x y z : Int32} (h : zKl Γ F th mo) (hI : zInv Γ k L F) (hI' : zInv Γ k L u) (hf : zFr Γ M F u) (hg : zFr Γ M' u v) (hth : Γ th = some 10) (hmo : Γ mo = some 14) (hM : 1424 ∉ M ∧ zKoF M ∧ zKoT M) (hM' : (1008 ∉ M' ∧ 1005 ∉ M') ∧ (∀ m ∈ zYr, m ∉ M') ∧ zKoV M') (k5 : zfld F th 5 = .ref lm) (hX : zMa Γ F lm X) (k22 : zfld u mo 22 = .ref lt) (k23 : zfld u mo 23 = .ref wk) (hY1 : zYm Γ u lt Y1) (hY2 : zYm Γ u wk Y2) (hd : ∀ a ∈ Y1, a ∉ Y2) (hO : O1 ↔ O2) (hO1 : O1 → (0 ≤ f ∧ f < (zfc d : Int)) ∧ zAn (zAa T V d) (zac d)) (c1 : O1 → zfld u th 8 = .int 1 ∧ ∃ m1, zVc u lm m1 ∧ zEq (zFx9 R fuel d T V f x y z) m1) (c0 : ¬ O1 → zfld u th 8 = zfld F th 8 ∧ ∀ a t, Γ a = some t → t ∈ zS5 → t ≠ 10 → u a = F a) (r1 : O2 → zRz R fuel d T V v wk f x y z) (rs : O2 → zfld v mo 22 = .ref wk ∧ zfld v mo 23 = .ref lt ∧ zfld v mo 24 = .int 1) (r0 : ¬ O2 → zfld v mo 22 = .ref lt ∧ zfld v mo 23 = .ref wk ∧ zfld v mo 24 = zfld u mo 24) (st : zYk Γ Y2 u v) : zKl Γ v th mo := by
  obtain ⟨hy, hs, m, m1, m2, ⟨k1, k2⟩, g⟩ := h
  obtain ⟨n2, ⟨⟨n3, n4, n6⟩, n5⟩, nt⟩ := hM
  obtain ⟨⟨p1, p3⟩, p5, pv⟩ := hM'
  have hyu := hy.fr hf hmo ⟨⟨n4, n6⟩, n5⟩
  have e8 : zfld v th 8 = zfld u th 8 := (hg.1 th 10 hth).1 (by decide) 8 p1
  have e5 : zfld v th 5 = .ref lm := hg.f hth 5 ⟨by decide, p3⟩ (hf.f hth 5 ⟨by decide, n3⟩ k5)
  by_cases c : O1
  · obtain ⟨a1, m9, a2, a3⟩ := c1 c
    obtain ⟨b1, b2, b3⟩ := rs (hO.mp c)
    obtain ⟨m8, a4, a5⟩ := (r1 (hO.mp c)).vt
    obtain ⟨hfr, hAn⟩ := hO1 c
    exact ⟨hyu.sw hg k22 k23 b1 b2 p5, 1, zFx9 R fuel d T V f x y z, m9, m8, ⟨e8.trans a1, b3⟩, fun _ => ⟨⟨a3, a4, zFx9.lw hfr hAn⟩, ⟨lm, e5, hX.2.1, a2.fr hI' hX.2.1 hg pv⟩, wk, b1, hY2.2.1, a5⟩⟩
  · obtain ⟨a1, a2⟩ := c0 c
    obtain ⟨b1, b2, b3⟩ := r0 (fun q => c (hO.mpr q))
    have hyv : zYn Γ v mo := by
      obtain ⟨lt9, wk9, Z1, Z2, ⟨q1, q2⟩, ⟨q3, q4⟩, q5⟩ := hyu
      cases Value.ref.inj (k22.symm.trans q1)
      cases Value.ref.inj (k23.symm.trans q2)
      exact ⟨lt, wk, Z1, Z2, ⟨b1, b2⟩, ⟨q3.fr hg p5, q4.fr hg p5⟩, q5⟩
    refine ⟨hyv, hs, m, m1, m2, ⟨e8.trans (a1.trans k1), b3.trans (hf.f hmo 24 ⟨by decide, n2⟩ k2)⟩, fun h9 => ?_⟩
    obtain ⟨q1, ⟨lm9, q2, q3, q4⟩, lt9, q5, q6, q7⟩ := g h9
    cases Value.ref.inj (k5.symm.trans q2)
    have q8 := hf.f hmo 22 ⟨by decide, n4⟩ q5
    cases Value.ref.inj (k22.symm.trans q8)
    have hu : ∀ a ∈ X, u a = F a := hX.sq (fun a t e h1 h2 _ => a2 a t e h1 h2)
    exact ⟨q1, ⟨lm, e5, q3, (q4.up hI hX hu).fr hI' q3 hg pv⟩, lt, b1, q6, (q7.fr hI hf q6 nt).up hI' hY1 (hY1.st hd st)⟩
/-- the two answers are one -/
theorem zKm.c {Γ : Nat → Option Nat} {F : Nat → va_E} {th mo lm : Nat} {hs : Int32} {m m1 m2 : zVm} (h : zKm Γ F th mo hs m m1 m2) (k5 : zfld F th 5 = .ref lm) : hs.toInt ≠ 0 → zVc F lm m1 := fun h9 => by
  obtain ⟨-, ⟨lm9, q2, -, q4⟩, -⟩ := h.2 h9
  cases Value.ref.inj (k5.symm.trans q2)
  exact q4
theorem zKm.r {Γ : Nat → Option Nat} {F : Nat → va_E} {th mo lt : Nat} {hs : Int32} {m m1 m2 : zVm} (h : zKm Γ F th mo hs m m1 m2) (k22 : zfld F mo 22 = .ref lt) : hs.toInt ≠ 0 → zVt F lt m2 := fun h9 => by
  obtain ⟨-, -, lt9, q2, -, q4⟩ := h.2 h9
  cases Value.ref.inj (k22.symm.trans q2)
  exact q4
/-- one run's record beside the other's -/
def zEm9 (m1 m2 : zVm) : Prop := ((vvl m1 = vvl m2 ∧ vst m1 = vst m2 ∧ vsc m1 = vsc m2 ∧ vtc m1 = vtc m2 ∧ vcv m1 = vcv m2 ∧ vmx m1 = vmx m2) ∧ zln9 (vcv m1) < 2 ^ 60) ∧ (∀ j, j < vsc m1 → j < 60 → vsd m1 j = vsd m2 j) ∧ (∀ j, j < 4 * vtc m1 → j < 1600 → vtr m1 j = vtr m2 j) ∧ ∀ j, j < 8 → vpl m1 j = vpl m2 j
theorem zEm9.of {m m1 m2 : zVm} (h : zEq m m1) (g : zEq m2 m) (w : zLw m) : zEm9 m1 m2 := by
  obtain ⟨⟨-, -, -, -, a5, -⟩, ⟨s1, s2, s3, s4, s5, s6, s7⟩, e1, e2, -⟩ := h
  obtain ⟨⟨-, -, -, -, b5, -⟩, ⟨t1, t2, t3, t4, t5, t6, t7⟩, k1, k2, -⟩ := g
  obtain ⟨w1, w2⟩ := w
  exact ⟨⟨⟨e2.trans k2, s1.trans t1, s3.trans t3, s5.trans t5, s2.trans t2, s7.trans t7⟩, by rw [s2]; exact w1⟩, fun j h1 h2 => (s4 j (by omega) h2).trans (t4 j (by omega) h2), fun j h1 h2 => (s6 j (by omega) h2).trans (t6 j (by omega) h2), fun j hj => (a5 j (by omega)).trans (b5 j (by omega))⟩
theorem zKm.e {Γ : Nat → Option Nat} {F : Nat → va_E} {th mo : Nat} {hs : Int32} {m m1 m2 : zVm} (h : zKm Γ F th mo hs m m1 m2) : hs.toInt ≠ 0 → zEm9 m1 m2 := fun h9 => zEm9.of (h.2 h9).1.1 (h.2 h9).1.2.1 (h.2 h9).1.2.2
theorem z_rna {hs wh r1 r2 : Int32} {m1 m2 : zVm} (e : hs.toInt ≠ 0 → zEm9 m1 m2) (h1 : (hs.toInt ≠ 0 ∧ wh.toInt = 0 → r1 = vvl m1) ∧ (hs.toInt ≠ 0 ∧ wh.toInt = 1 → r1.toInt = vst m1) ∧ (hs.toInt ≠ 0 ∧ wh.toInt = 2 → r1.toInt = (vsc m1 : Int)) ∧ (hs.toInt ≠ 0 ∧ wh.toInt = 3 → r1.toInt = (vtc m1 : Int)) ∧ (hs.toInt ≠ 0 ∧ wh.toInt = 4 → r1.toInt = (zbn (zln9 (vcv m1)) 64 : Int)) ∧ (hs.toInt ≠ 0 ∧ wh.toInt = 5 → r1.toInt = (vmx m1 : Int)) ∧ (hs.toInt = 0 ∨ wh.toInt < 0 ∨ 5 < wh.toInt → r1.toInt = -1)) (h2 : (hs.toInt ≠ 0 ∧ wh.toInt = 0 → r2 = vvl m2) ∧ (hs.toInt ≠ 0 ∧ wh.toInt = 1 → r2.toInt = vst m2) ∧ (hs.toInt ≠ 0 ∧ wh.toInt = 2 → r2.toInt = (vsc m2 : Int)) ∧ (hs.toInt ≠ 0 ∧ wh.toInt = 3 → r2.toInt = (vtc m2 : Int)) ∧ (hs.toInt ≠ 0 ∧ wh.toInt = 4 → r2.toInt = (zbn (zln9 (vcv m2)) 60 : Int)) ∧ (hs.toInt ≠ 0 ∧ wh.toInt = 5 → r2.toInt = (vmx m2 : Int)) ∧ (hs.toInt = 0 ∨ wh.toInt < 0 ∨ 5 < wh.toInt → r2.toInt = -1)) : r1 = r2 := by
  obtain ⟨a0, a1, a2, a3, a4, a5, a6⟩ := h1
  obtain ⟨b0, b1, b2, b3, b4, b5, b6⟩ := h2
  by_cases c : hs.toInt = 0 ∨ wh.toInt < 0 ∨ 5 < wh.toInt
  · exact Int32.toInt_inj.mp ((a6 c).trans (b6 c).symm)
  · have c0 : hs.toInt ≠ 0 := fun q => c (Or.inl q)
    obtain ⟨⟨⟨e0, e1, e2, e3, e4, e5⟩, el⟩, -⟩ := e c0
    have hw : wh.toInt = 0 ∨ wh.toInt = 1 ∨ wh.toInt = 2 ∨ wh.toInt = 3 ∨ wh.toInt = 4 ∨ wh.toInt = 5 := by omega
    rcases hw with w | w | w | w | w | w
    · exact (a0 ⟨c0, w⟩).trans (e0.trans (b0 ⟨c0, w⟩).symm)
    · exact Int32.toInt_inj.mp ((a1 ⟨c0, w⟩).trans (e1.trans (b1 ⟨c0, w⟩).symm))
    · have h1 := a2 ⟨c0, w⟩
      have h2 := b2 ⟨c0, w⟩
      exact Int32.toInt_inj.mp (by omega)
    · have h1 := a3 ⟨c0, w⟩
      have h2 := b3 ⟨c0, w⟩
      exact Int32.toInt_inj.mp (by omega)
    · have h1 := a4 ⟨c0, w⟩
      have h2 := b4 ⟨c0, w⟩
      have h3 : zbn (zln9 (vcv m1)) 64 = zbn (zln9 (vcv m1)) 60 := zbn_hi el 4
      rw [← e4] at h2
      exact Int32.toInt_inj.mp (by omega)
    · have h1 := a5 ⟨c0, w⟩
      have h2 := b5 ⟨c0, w⟩
      exact Int32.toInt_inj.mp (by omega)
theorem z_cov {hs li lc is nl r1 r2 : Int32} {m1 m2 : zVm} (e : hs.toInt ≠ 0 → zEm9 m1 m2) (h1 : (hs.toInt ≠ 0 ∧ 0 ≤ li.toInt ∧ li.toInt < lc.toInt → r1 = zcvb (zln9 (vcv m1)) li.toInt.toNat) ∧ (hs.toInt = 0 ∨ li.toInt < 0 ∨ lc.toInt ≤ li.toInt → r1.toInt = -1)) (h2 : (hs.toInt ≠ 0 ∧ is.toInt ≠ 0 ∧ 0 ≤ li.toInt ∧ li.toInt < nl.toInt → r2 = zcvb (zln9 (vcv m2)) li.toInt.toNat) ∧ (hs.toInt = 0 ∨ is.toInt = 0 ∨ li.toInt < 0 ∨ nl.toInt ≤ li.toInt → r2.toInt = -1)) (hd : (is.toInt = 0 ∧ lc.toInt = 0) ∨ (is.toInt ≠ 0 ∧ nl = lc)) : r1 = r2 := by
  by_cases c : hs.toInt ≠ 0 ∧ 0 ≤ li.toInt ∧ li.toInt < lc.toInt
  · rcases hd with ⟨d1, d2⟩ | ⟨d1, d2⟩
    · omega
    · subst d2
      rw [h1.1 c, h2.1 ⟨c.1, d1, c.2⟩, (e c.1).1.1.2.2.2.2.1]
  · refine Int32.toInt_inj.mp ((h1.2 (by omega)).trans (h2.2 ?_).symm)
    rcases hd with ⟨d1, d2⟩ | ⟨d1, d2⟩
    · exact Or.inr (Or.inl d1)
    · subst d2
      omega
theorem z_plc {hs q r1 r2 : Int32} {m1 m2 : zVm} (e : hs.toInt ≠ 0 → zEm9 m1 m2) (h1 : (hs.toInt ≠ 0 ∧ 0 ≤ q.toInt ∧ q.toInt < 8 → r1 = vpl m1 q.toInt.toNat) ∧ (hs.toInt = 0 ∨ q.toInt < 0 ∨ 8 ≤ q.toInt → r1.toInt = -1)) (h2 : (hs.toInt ≠ 0 ∧ 0 ≤ q.toInt ∧ q.toInt < 8 → r2 = vpl m2 q.toInt.toNat) ∧ (hs.toInt = 0 ∨ q.toInt < 0 ∨ 8 ≤ q.toInt → r2.toInt = -1)) : r1 = r2 := by
  by_cases c : hs.toInt ≠ 0 ∧ 0 ≤ q.toInt ∧ q.toInt < 8
  · rw [h1.1 c, h2.1 c]
    exact (e c.1).2.2.2 _ (by omega)
  · exact Int32.toInt_inj.mp ((h1.2 (by omega)).trans (h2.2 (by omega)).symm)
/-- two answers of unlike are one -/
theorem z_unl {r1 r2 f fc iz nf : Int32} {e n : Nat} (h1 : (fc.toInt ≠ 0 ∧ 0 ≤ f.toInt ∧ f.toInt < fc.toInt → r1.toInt = (e : Int)) ∧ (¬ (fc.toInt ≠ 0 ∧ 0 ≤ f.toInt ∧ f.toInt < fc.toInt) → r1.toInt = -1)) (h2 : (iz.toInt ≠ 0 ∧ 0 ≤ f.toInt ∧ f.toInt < nf.toInt → r2.toInt = (e : Int)) ∧ (¬ (iz.toInt ≠ 0 ∧ 0 ≤ f.toInt ∧ f.toInt < nf.toInt) → r2.toInt = -1)) (hd : (iz.toInt = 0 ∧ fc.toInt = 0) ∨ (iz.toInt ≠ 0 ∧ fc.toInt = (n : Int) ∧ 0 < fc.toInt)) (hn : iz.toInt ≠ 0 → nf.toInt = (n : Int)) : r1 = r2 := by
  by_cases c : fc.toInt ≠ 0 ∧ 0 ≤ f.toInt ∧ f.toInt < fc.toInt
  · rcases hd with ⟨g1, g2⟩ | ⟨g1, g2, g3⟩
    · exact absurd g2 c.1
    · have := hn g1
      exact Int32.toInt_inj.mp ((h1.1 c).trans (h2.1 ⟨g1, c.2.1, by omega⟩).symm)
  · refine Int32.toInt_inj.mp ((h1.2 c).trans (h2.2 (fun g => c ?_)).symm)
    rcases hd with ⟨g1, -⟩ | ⟨g1, g2, g3⟩
    · exact absurd g1 g.1
    · have := hn g1
      exact ⟨by omega, g.2.1, by omega⟩
theorem z_sai {hs i k t r : Int32} {v : Int} {m1 m2 : zVm} (e : hs.toInt ≠ 0 → zEm9 m1 m2) (h1 : (k.toInt = 1 ∧ (hs.toInt = 0 ∨ i.toInt < 0 ∨ (vsc m1 : Int) ≤ i.toInt ∨ 60 ≤ i.toInt)) ∨ (k.toInt = 0 ∧ (hs.toInt ≠ 0 ∧ 0 ≤ i.toInt ∧ i.toInt < (vsc m1 : Int) ∧ i.toInt < 60) ∧ v = (vsd m1 i.toInt.toNat).toInt)) (h2 : (t.toInt = 1 ∧ (hs.toInt = 0 ∨ i.toInt < 0 ∨ (vsc m2 : Int) ≤ i.toInt ∨ 60 ≤ i.toInt)) ∨ (t.toInt = 0 ∧ (hs.toInt ≠ 0 ∧ 0 ≤ i.toInt ∧ i.toInt < (vsc m2 : Int) ∧ i.toInt < 60) ∧ r = vsd m2 i.toInt.toNat)) : t = k ∧ (k.toInt = 0 → v = r.toInt) := by
  rcases h1 with ⟨a1, a2⟩ | ⟨a1, a2, a3⟩ <;> rcases h2 with ⟨b1, b2⟩ | ⟨b1, b2, b3⟩
  · exact ⟨Int32.toInt_inj.mp (by omega), fun h => by omega⟩
  · have q := (e b2.1).1.1.2.2.1
    exfalso
    omega
  · have q := (e a2.1).1.1.2.2.1
    exfalso
    omega
  · refine ⟨Int32.toInt_inj.mp (by omega), fun _ => ?_⟩
    rw [a3, b3, (e a2.1).2.1 i.toInt.toNat (by omega) (by omega)]
theorem z_tra {hs i wh k t r : Int32} {v : Int} {m1 m2 : zVm} (e : hs.toInt ≠ 0 → zEm9 m1 m2) (h1 : (k.toInt = 1 ∧ (hs.toInt = 0 ∨ i.toInt < 0 ∨ (vtc m1 : Int) ≤ i.toInt ∨ 400 ≤ i.toInt ∨ wh.toInt < 0 ∨ 3 < wh.toInt)) ∨ (k.toInt = 0 ∧ (hs.toInt ≠ 0 ∧ (0 ≤ i.toInt ∧ i.toInt < (vtc m1 : Int) ∧ i.toInt < 400) ∧ 0 ≤ wh.toInt ∧ wh.toInt ≤ 3) ∧ v = (vtr m1 (4 * i.toInt.toNat + wh.toInt.toNat)).toInt)) (h2 : (t.toInt = 1 ∧ (hs.toInt = 0 ∨ i.toInt < 0 ∨ (vtc m2 : Int) ≤ i.toInt ∨ 400 ≤ i.toInt ∨ wh.toInt < 0 ∨ 3 < wh.toInt)) ∨ (t.toInt = 0 ∧ (hs.toInt ≠ 0 ∧ 0 ≤ i.toInt ∧ i.toInt < (vtc m2 : Int) ∧ i.toInt < 400 ∧ 0 ≤ wh.toInt ∧ wh.toInt ≤ 3) ∧ r = vtr m2 (4 * i.toInt.toNat + wh.toInt.toNat))) : t = k ∧ (k.toInt = 0 → v = r.toInt) := by
  rcases h1 with ⟨a1, a2⟩ | ⟨a1, a2, a3⟩ <;> rcases h2 with ⟨b1, b2⟩ | ⟨b1, b2, b3⟩
  · exact ⟨Int32.toInt_inj.mp (by omega), fun h => by omega⟩
  · have q := (e b2.1).1.1.2.2.2.1
    exfalso
    omega
  · have q := (e a2.1).1.1.2.2.2.1
    exfalso
    omega
  · refine ⟨Int32.toInt_inj.mp (by omega), fun _ => ?_⟩
    rw [a3, b3, (e a2.1).2.2.1 (4 * i.toInt.toNat + wh.toInt.toNat) (by omega) (by omega)]
