/-! Two machines that differ in what no run can tell. -/
def zEq (m m' : zVm) : Prop :=
  (vdp m' = vdp m ∧ vsk m' = vsk m ∧ (1 ≤ vdp m → vnx m' = vnx m) ∧ (∀ j, 1 ≤ j → j < vdp m → vbk m' j = vbk m j) ∧ (∀ j, j < 8 * vmx m → vpl m' j = vpl m j) ∧ vdp m ≤ vmx m) ∧
  (vst m' = vst m ∧ vcv m' = vcv m ∧ vsc m' = vsc m ∧ (∀ j, j < vsc m → j < 60 → vsd m' j = vsd m j) ∧ vtc m' = vtc m ∧ (∀ j, j < 4 * vtc m → j < 1600 → vtr m' j = vtr m j) ∧ vmx m' = vmx m) ∧
  ven m' = ven m ∧ vvl m' = vvl m ∧ vgo m' = vgo m
section
variable {m m' : zVm}
theorem zEq.dp (h : zEq m m') : vdp m' = vdp m := h.1.1
theorem zEq.sk (h : zEq m m') : vsk m' = vsk m := h.1.2.1
theorem zEq.go (h : zEq m m') : vgo m' = vgo m := h.2.2.2.2
theorem zEq.top (h : zEq m m') : v_top m' = v_top m := by
  unfold v_top
  rw [h.sk]
theorem zEq.setsk (h : zEq m m') (s : List Int32) : zEq (v_sk m s) (v_sk m' s) := ⟨⟨h.1.1, rfl, h.1.2.2⟩, h.2⟩
theorem zEq.push (h : zEq m m') (x : Int32) : zEq (v_push m x) (v_push m' x) := by
  unfold v_push
  rw [h.sk]
  split
  · exact h.setsk _
  · exact h
theorem zEq.pop (h : zEq m m') : zEq (v_pop m) (v_pop m') := by
  unfold v_pop
  rw [h.sk]
  exact h.setsk _
theorem zEq.setgo (h : zEq m m') (p : Nat) : zEq (v_go m p) (v_go m' p) := ⟨⟨h.1.1, h.1.2.1, fun _ => rfl, h.1.2.2.2⟩, h.2⟩
theorem zEq.ix (h : zEq m m') (k : Int) : v_ix m' k = v_ix m k := by
  unfold v_ix
  rw [h.dp]
theorem zEq.put (h : zEq m m') (k : Int) (x : Int32) : zEq (v_put m k x) (v_put m' k x) := by
  unfold v_put
  rw [h.ix k]
  split
  · refine ⟨⟨h.1.1, h.1.2.1, h.1.2.2.1, h.1.2.2.2.1, fun j hj => ?_, h.1.2.2.2.2.2⟩, h.2⟩
    show (if j = (v_ix m k).toNat then x else vpl m' j) = (if j = (v_ix m k).toNat then x else vpl m j)
    by_cases c : j = (v_ix m k).toNat
    · rw [if_pos c, if_pos c]
    · rw [if_neg c, if_neg c]
      exact h.1.2.2.2.2.1 j hj
  · exact h
theorem zEq.get (h : zEq m m') {k : Int} (hk : k < 8) (hd : 1 ≤ vdp m) : v_get m' k = v_get m k := by
  unfold v_get
  rw [h.ix k]
  split
  · rename_i c
    have h1 := h.1.2.2.2.2.2
    have h2 : v_ix m k = ((vdp m : Int) - 1) * 8 + k := rfl
    exact h.1.2.2.2.2.1 _ (by omega)
  · rfl
theorem zEq.note (h : zEq m m') (a b c d : Int32) : zEq (v_note m a b c d) (v_note m' a b c d) := by
  obtain ⟨h1, ⟨s1, s2, s3, s4, s5, s6, s7⟩, h3⟩ := h
  refine ⟨h1, ⟨s1, s2, s3, s4, ?_, fun j hj h16 => ?_, s7⟩, h3⟩
  · show vtc m' + 1 = vtc m + 1
    rw [s5]
  · have hj : j < 4 * (vtc m + 1) := hj
    show (if vtc m' < 400 then vup (vup (vup (vup (vtr m') (4 * vtc m') a) (4 * vtc m' + 1) b) (4 * vtc m' + 2) c) (4 * vtc m' + 3) d else vtr m') j = (if vtc m < 400 then vup (vup (vup (vup (vtr m) (4 * vtc m) a) (4 * vtc m + 1) b) (4 * vtc m + 2) c) (4 * vtc m + 3) d else vtr m) j
    rw [s5]
    split
    · show (if j = 4 * vtc m + 3 then d else if j = 4 * vtc m + 2 then c else if j = 4 * vtc m + 1 then b else if j = 4 * vtc m then a else vtr m' j) = (if j = 4 * vtc m + 3 then d else if j = 4 * vtc m + 2 then c else if j = 4 * vtc m + 1 then b else if j = 4 * vtc m then a else vtr m j)
      split
      · rfl
      · split
        · rfl
        · split
          · rfl
          · split
            · rfl
            · exact s6 j (by omega) h16
    · exact s6 j (by omega) h16
theorem zEq.say (h : zEq m m') (a : Int32) : zEq (v_say m a) (v_say m' a) := by
  obtain ⟨h1, ⟨s1, s2, s3, s4, s5, s6, s7⟩, h3⟩ := h
  refine ⟨h1, ⟨s1, s2, ?_, fun j hj h60 => ?_, s5, s6, s7⟩, h3⟩
  · show vsc m' + 1 = vsc m + 1
    rw [s3]
  · have hj : j < vsc m + 1 := hj
    show (if vsc m' < 60 then vup (vsd m') (vsc m') a else vsd m') j = (if vsc m < 60 then vup (vsd m) (vsc m) a else vsd m) j
    rw [s3]
    split
    · show (if j = vsc m then a else vsd m' j) = (if j = vsc m then a else vsd m j)
      by_cases c : j = vsc m
      · rw [if_pos c, if_pos c]
      · rw [if_neg c, if_neg c]
        exact s4 j (by omega) h60
    · exact s4 j (by omega) h60
theorem zEq.stop (h : zEq m m') (e : Int) : zEq (v_stop m e) (v_stop m' e) := ⟨h.1, h.2.1, rfl, h.2.2.2.1, rfl⟩
theorem zEq.cover (h : zEq m m') (s : Int) (c : Int64) : zEq (v_rec m (s, c, m.2.1.2.2)) (v_rec m' (s, c, m'.2.1.2.2)) := ⟨h.1, ⟨rfl, rfl, h.2.1.2.2⟩, h.2.2⟩
theorem zEq.spend (h : zEq m m') (f : Int) : zEq (v_spend f m) (v_spend f m') := by
  unfold v_spend
  rw [h.2.1.1]
  split
  · exact h.stop 1
  · exact ⟨h.1, ⟨rfl, h.2.1.2⟩, h.2.2⟩
theorem zEq.begin (h : zEq m m') (f : Int) (l : Nat) : zEq (v_begin f l m) (v_begin f l m') := by
  have h1 := h.spend f
  unfold v_begin
  dsimp only
  rw [h1.go, h1.2.1.1, h1.2.1.2.1]
  split
  · exact h1.cover _ _
  · exact h1
theorem zEq.again (h : zEq m m') (R f : Int) (q : Nat) : zEq (v_again R f q m) (v_again R f q m') := by
  have h1 := h.spend f
  unfold v_again
  split
  · exact h
  · dsimp only
    rw [h1.go]
    split
    · exact h1.setgo q
    · exact h1
theorem zEq.branch (h : zEq m m') (q l : Nat) : zEq (v_branch q l m) (v_branch q l m') := by
  unfold v_branch
  dsimp only
  rw [h.top]
  have h1 := h.pop.note (Int32.ofNat l) (-1) 0 (v_top m)
  split
  · exact h1.setgo q
  · exact h1
theorem zEq.leave (h : zEq m m') (w : Int32) : zEq (v_leave w m) (v_leave w m') := by
  by_cases c : vdp m ≤ 1
  · rw [zv_leave1 c, zv_leave1 (by rw [h.dp]; exact c), h.dp]
    obtain ⟨⟨a1, a2, a3, a4, a5, a6⟩, b, e⟩ := h
    exact ⟨⟨rfl, a2, fun q => by exfalso; have q : 1 ≤ vdp m - 1 := q; omega, fun j h1 h2 => by exfalso; have h2 : j < vdp m - 1 := h2; omega, a5, by show vdp m - 1 ≤ vmx m; omega⟩, b, rfl, rfl, rfl⟩
  · rw [zv_leave2 (by omega), zv_leave2 (by rw [h.dp]; omega), h.dp]
    have e := h.1.2.2.2.1 (vdp m - 1) (by omega) (by omega)
    rw [e]
    refine zEq.push ?_ w
    obtain ⟨⟨a1, a2, a3, a4, a5, a6⟩, b, e⟩ := h
    exact ⟨⟨rfl, a2, fun _ => rfl, fun j h1 h2 => a4 j h1 (by have h2 : j < vdp m - 1 := h2; omega), a5, by show vdp m - 1 ≤ vmx m; omega⟩, b, e⟩
theorem zEq.room (h : zEq m m') (p : Nat) : zEq (v_go (v_room m) p) (v_go (v_room m') p) := by
  have hn := h.1.2.2.1
  obtain ⟨⟨a1, a2, a3, a4, a5, a6⟩, ⟨s1, s2, s3, s4, s5, s6, s7⟩, e⟩ := h
  refine ⟨⟨?_, a2, fun _ => rfl, fun j h1 h2 => ?_, fun j hj => ?_, ?_⟩, ⟨s1, s2, s3, s4, s5, s6, ?_⟩, e⟩
  · show vdp m' + 1 = vdp m + 1
    rw [a1]
  · have h2 : j < vdp m + 1 := h2
    show (if j = vdp m' then vnx m' else vbk m' j) = (if j = vdp m then vnx m else vbk m j)
    rw [a1]
    by_cases c : j = vdp m
    · rw [if_pos c, if_pos c]
      exact hn (by omega)
    · rw [if_neg c, if_neg c]
      exact a4 j h1 (by omega)
  · have hj : j < 8 * Nat.max (vmx m) (vdp m + 1) := hj
    show (if vdp m' * 8 ≤ j ∧ j < vdp m' * 8 + 8 then 0 else vpl m' j) = (if vdp m * 8 ≤ j ∧ j < vdp m * 8 + 8 then 0 else vpl m j)
    rw [a1]
    split
    · rfl
    · have : Nat.max (vmx m) (vdp m + 1) = max (vmx m) (vdp m + 1) := rfl
      exact a5 j (by omega)
  · show vdp m + 1 ≤ Nat.max (vmx m) (vdp m + 1)
    exact Nat.le_max_right _ _
  · show Nat.max (vmx m') (vdp m' + 1) = Nat.max (vmx m) (vdp m + 1)
    rw [s7, a1]
end
theorem v_tk1_go {pg : zPg} {f n p : Nat} {m : zVm} : v_tk1 pg f n (v_go m p) = v_go (v_tk1 pg f n m) p := by
  have hx : v_ix (v_pop (v_go m p)) (pg.2.1 f n) = v_ix (v_pop m) (pg.2.1 f n) := rfl
  unfold v_tk1
  by_cases h : 0 ≤ v_ix (v_pop m) (pg.2.1 f n) ∧ v_ix (v_pop m) (pg.2.1 f n) < 64
  · rw [zv_putin (by rw [hx]; exact h), zv_putin h]
    rfl
  · rw [zv_putout (by rw [hx]; omega), zv_putout (by omega)]
    rfl
theorem v_take_go {pg : zPg} {f p : Nat} : ∀ (n : Nat) (m : zVm), v_take pg f n (v_go m p) = v_go (v_take pg f n m) p
  | 0, _ => rfl
  | n + 1, m => by
    show v_take pg f n (v_tk1 pg f n (v_go m p)) = v_go (v_take pg f n (v_tk1 pg f n m)) p
    rw [v_tk1_go, v_take_go n]
theorem zEq.take {pg : zPg} {f : Nat} : ∀ (n : Nat) {m m' : zVm}, zEq m m' → zEq (v_take pg f n m) (v_take pg f n m')
  | 0, _, _, h => h
  | n + 1, m, m', h => by
    refine zEq.take n ?_
    unfold v_tk1
    rw [h.top]
    exact h.pop.put _ _
theorem zEq.enter {m m' : zVm} (h : zEq m m') (pg : zPg) (f : Int) : zEq (v_enter pg f m) (v_enter pg f m') := by
  by_cases c : 8 ≤ vdp m
  · rw [zv_enter0 c, zv_enter0 (by rw [h.dp]; exact c)]
    exact h.stop 2
  · by_cases c1 : 0 ≤ f ∧ f < pg.1.1
    · have e : ∀ m : zVm, ¬ 8 ≤ vdp m → v_enter pg f m = v_go (v_take pg f.toNat (pg.1.2 f.toNat) (v_go (v_room m) 0)) (pg.2.2 f.toNat) := fun m c => by
        unfold v_enter
        rw [if_neg c, if_pos c1, v_take_go]
        rfl
      rw [e m c, e m' (by rw [h.dp]; exact c)]
      exact ((h.room 0).take _).setgo _
    · rw [zv_enter1 c c1, zv_enter1 (by rw [h.dp]; exact c) c1]
      exact h
theorem zEq.obey {R fuel : Int} {pg : zPg} {x : Nat × Int × Nat} {m m' : zVm} (h : zEq m m') (hd : 1 ≤ vdp m) (hx : x.1 = 2 ∨ x.1 = 10 → x.2.1 < 8) : zEq (v_obey R fuel pg x m) (v_obey R fuel pg x m') := by
  obtain ⟨a, n, l⟩ := x
  have ha : a = 0 ∨ a = 1 ∨ a = 2 ∨ a = 9 ∨ a = 10 ∨ a = 11 ∨ a = 12 ∨ a = 13 ∨ a = 14 ∨ a = 15 ∨ a = 16 ∨ (3 ≤ a ∧ (a ≤ 8 ∨ 17 ≤ a)) := by omega
  rcases ha with e | e | e | e | e | e | e | e | e | e | e | e
  · subst e
    exact h.begin _ _
  · subst e
    exact h.push _
  · subst e
    rw [zv_ob2, zv_ob2, h.get (hx (Or.inl rfl)) hd]
    exact h.push _
  · subst e
    exact h.enter _ _
  · subst e
    rw [zv_ob10, zv_ob10, h.get (hx (Or.inr rfl)) hd, h.top]
    exact (h.pop.note _ _ _ _).put _ _
  · subst e
    rw [zv_ob11, zv_ob11, h.top]
    exact (h.pop.say _).note _ _ _ _
  · subst e
    rw [zv_ob12, zv_ob12, h.top]
    exact (h.pop.note _ _ _ _).leave _
  · subst e
    exact h.branch _ _
  · subst e
    exact h.again _ _ _
  · subst e
    exact h.setgo _
  · subst e
    exact h.leave 0
  · rw [zv_obe e, zv_obe e]
    unfold v_reckon
    rw [h.top, h.pop.top]
    exact h.pop.pop.push _
theorem zEq.turn {R fuel : Int} {pg : zPg} {A : Nat → Nat × Int × Nat} {n k : Nat} {m m' : zVm} (h : zEq m m') (hk : zVk k m) (hA : ∀ q, q < n → (A q).1 = 2 ∨ (A q).1 = 10 → (A q).2.1 < 8) : zEq (v_turn R fuel pg A n m) (v_turn R fuel pg A n m') := by
  by_cases g : vgo m = true
  · have hd := hk.1 g
    have e := h.1.2.2.1 hd
    unfold v_turn
    rw [h.go, e]
    split
    · rename_i c
      exact zEq.obey (h.setgo _) hd (hA _ c.2)
    · exact h
  · have e1 : v_turn R fuel pg A n m = m := if_neg (fun c => g c.1)
    have e2 : v_turn R fuel pg A n m' = m' := if_neg (fun c => g (by rw [← h.go]; exact c.1))
    rw [e1, e2]
    exact h
theorem zEq.run {R fuel : Int} {pg : zPg} {A : Nat → Nat × Int × Nat} {n : Nat} (hA : ∀ q, q < n → (A q).1 = 2 ∨ (A q).1 = 10 → (A q).2.1 < 8) : ∀ (j k : Nat) {m m' : zVm}, zEq m m' → zVk k m → zEq (v_run R fuel pg A n j m) (v_run R fuel pg A n j m')
  | 0, _, _, _, h, _ => h
  | j + 1, k, m, m', h, hk => zEq.run hA j (k + 1) (h.turn hk hA) hk.turn
/-- a value stands only where a run came back -/
def zVv (m : zVm) : Prop := vvl m = 0 ∨ (vgo m = false ∧ ven m = 0)
theorem v_push_vl {m : zVm} {x : Int32} : vvl (v_push m x) = vvl m := by
  unfold v_push
  split <;> rfl
theorem v_put_vl {m : zVm} {k : Int} {x : Int32} : vvl (v_put m k x) = vvl m := by
  unfold v_put
  split <;> rfl
theorem v_spend_vl {m : zVm} {f : Int} : vvl (v_spend f m) = vvl m := by
  unfold v_spend
  split <;> rfl
theorem v_take_vl {pg : zPg} {f : Nat} : ∀ (n : Nat) (m : zVm), vvl (v_take pg f n m) = vvl m
  | 0, _ => rfl
  | n + 1, m => (v_take_vl n _).trans (v_put_vl (m := v_pop m))
theorem v_enter_vl {pg : zPg} {f : Int} {m : zVm} : vvl (v_enter pg f m) = vvl m := by
  unfold v_enter
  split
  · rfl
  · split
    · exact v_take_vl _ (v_room m)
    · rfl
theorem zVv.leave {w : Int32} {m : zVm} (h : vvl m = 0) : zVv (v_leave w m) := by
  by_cases c : vdp m ≤ 1
  · rw [zv_leave1 c]
    exact Or.inr ⟨rfl, rfl⟩
  · rw [zv_leave2 (by omega)]
    exact Or.inl (v_push_vl.trans h)
theorem zVv.obey {R fuel : Int} {pg : zPg} {x : Nat × Int × Nat} {m : zVm} (h : vvl m = 0) : zVv (v_obey R fuel pg x m) := by
  obtain ⟨a, n, l⟩ := x
  have ha : a = 0 ∨ a = 1 ∨ a = 2 ∨ a = 9 ∨ a = 10 ∨ a = 11 ∨ a = 12 ∨ a = 13 ∨ a = 14 ∨ a = 15 ∨ a = 16 ∨ (3 ≤ a ∧ (a ≤ 8 ∨ 17 ≤ a)) := by omega
  rcases ha with e | e | e | e | e | e | e | e | e | e | e | e
  · subst e
    refine Or.inl ?_
    rw [zv_ob0]
    unfold v_begin
    dsimp only
    split
    · exact v_spend_vl.trans h
    · exact v_spend_vl.trans h
  · subst e
    exact Or.inl (v_push_vl.trans h)
  · subst e
    exact Or.inl (v_push_vl.trans h)
  · subst e
    exact Or.inl (v_enter_vl.trans h)
  · subst e
    exact Or.inl (v_put_vl.trans h)
  · subst e
    exact Or.inl h
  · subst e
    exact zVv.leave (m := v_note (v_pop m) (Int32.ofNat l) (-1) 0 (v_top m)) h
  · subst e
    refine Or.inl ?_
    rw [zv_ob13]
    unfold v_branch
    dsimp only
    split
    · exact h
    · exact h
  · subst e
    refine Or.inl ?_
    rw [zv_ob14]
    unfold v_again
    split
    · exact h
    · dsimp only
      split
      · exact v_spend_vl.trans h
      · exact v_spend_vl.trans h
  · subst e
    exact Or.inl h
  · subst e
    exact zVv.leave h
  · rw [zv_obe e]
    exact Or.inl (v_push_vl.trans h)
theorem zVv.run {R fuel : Int} {pg : zPg} {A : Nat → Nat × Int × Nat} {n : Nat} : ∀ (j : Nat) {m : zVm}, zVv m → zVv (v_run R fuel pg A n j m)
  | 0, _, h => h
  | j + 1, m, h => by
    refine zVv.run j ?_
    unfold v_turn
    split
    · rename_i c
      rcases h with h | h
      · exact zVv.obey (m := v_go m (vnx m + 1)) h
      · rw [h.1] at c
        exact absurd c.1 (by decide)
    · exact h
