/-! Text constants: their length, their bytes. -/
theorem zStrs_le : ∀ q ∈ zStrs, q.2.2.2 ≤ 6 := by decide +kernel
/-- byte x of the text i -/
def zch (i : Nat) (x : Int32) : Int32 := (zByt.getD i []).getD x.toNatClampNeg 0
theorem zch_ok0 : ∀ l ∈ zByt, ∀ b ∈ l, ((b &&& 255).toUInt32 % 65536).toInt32 = b ∧ 97 ≤ b.toInt ∧ b.toInt ≤ 122 := by decide +kernel
theorem zch_ok (i : Nat) (x : Int32) : (((zch i x) &&& 255).toUInt32 % 65536).toInt32 = zch i x := by
  unfold zch
  rw [List.getD_eq_getElem?_getD (l := zByt)]
  cases e : zByt[i]? with
  | none => exact (show (((0 : Int32) &&& 255).toUInt32 % 65536).toInt32 = 0 by decide)
  | some l =>
    show ((((l.getD x.toNatClampNeg 0) &&& 255).toUInt32 % 65536).toInt32) = l.getD x.toNatClampNeg 0
    rw [List.getD_eq_getElem?_getD]
    cases e1 : l[x.toNatClampNeg]? with
    | none => exact (show (((0 : Int32) &&& 255).toUInt32 % 65536).toInt32 = 0 by decide)
    | some b => exact (zch_ok0 l (List.mem_of_getElem? e) b (List.mem_of_getElem? e1)).1
theorem z_u16 (u : UInt32) (h : u.toNat < 65536) : u.toUInt16.toUInt32 = u := by
  apply UInt32.toNat_inj.mp
  rw [UInt16.toNat_toUInt32, UInt32.toNat_toUInt16]
  omega
theorem z_narC (x : Int32) : narrow .char (.int ((x.toUInt32 % 65536).toInt32)) = .int ((x.toUInt32 % 65536).toInt32) := by
  have e : (65536 : UInt32).toNat = 65536 := by decide
  have hlt : (x.toUInt32 % 65536).toNat < 65536 := by
    rw [UInt32.toNat_mod, e]
    exact Nat.mod_lt _ (by decide)
  generalize x.toUInt32 % 65536 = u at hlt
  simp only [narrow, UInt32.toUInt32_toInt32]
  rw [z_u16 u hlt]
section
variable {p : Program} {l : Launch} {e : Env} {R : Room} {s : State} {m : MethodId} {args : Array Value} {below : List Frame} {meth : Method} {c : Code} {H : Heap} {locs : List Loc} {cells slots : Nat} {Q : State → Prop}
variable {cc : ByteArray} {pc nL : Nat} {ls : Array Slot} {rest st0 : List Value} {D : va_G} {k : Nat → ClassId} {Γ : Nat → Option Nat} {L : List Nat} {F : Nat → va_E} {Ts : List Cond} {own : String} {i : Nat} {q : String × Nat × String × Nat}
theorem zE_R (Z : zC p m c cc nL s args Ts own D k L) (hq : zStrs[i]? = some q) : vk_R q.1 q.2.1 q.2.2.1 (D.2 99 i) s := (Z.2.2.2.2.2.2.1 i q hq).1
theorem zE_coder (Z : zC p m c cc nL s args Ts own D k L) (hq : zStrs[i]? = some q) : va_OF "java/lang/String" "coder" "B" (.int 0) (D.2 99 i) (zA L s.heap.size) s s.heap := (Z.2.2.2.2.2.2.1 i q hq).2.2.1
theorem zE_value (Z : zC p m c cc nL s args Ts own D k L) (hq : zStrs[i]? = some q) : va_OF "java/lang/String" "value" "[B" (.ref (D.2 98 i)) (D.2 99 i) (zA L s.heap.size) s s.heap := (Z.2.2.2.2.2.2.1 i q hq).2.2.2.1
theorem zE_bytes (Z : zC p m c cc nL s args Ts own D k L) (hq : zStrs[i]? = some q) : va_T .byte (D.2 98 i) q.2.2.2 (fun j => .int ((zByt.getD i []).getD j 0)) (zA L s.heap.size) s s.heap := (Z.2.2.2.2.2.2.1 i q hq).2.2.2.2
theorem zE_recv (Z : zC p m c cc nL s args Ts own D k L) (h : zH D k Γ L s F H locs) (hq : zStrs[i]? = some q) : ∃ cell : Cell, H[D.2 99 i]? = some cell ∧ cell.vm.isStatics = false ∧ s.vm.findClass "java/lang/String" = some cell.cls := by
  obtain ⟨cell, h1, h2, h3, -⟩ := ((Z.2.2.2.2.2.2.1 i q hq).2.1).kept h.2.2.2.1
  exact ⟨cell, h1, h2, h3⟩
theorem zE_compact (Z : zC p m c cc nL s args Ts own D k L) : va_Z "java/lang/String" "COMPACT_STRINGS" "Z" (.int 1) (zA L s.heap.size) s s.heap := Z.2.2.2.2.2.2.2.1
theorem zE_form (Z : zC p m c cc nL s args Ts own D k L) : va_Zq "jdk/internal/util/Preconditions" "SIOOBE_FORMATTER" "Ljava/util/function/BiFunction;" (zA L s.heap.size) s s.heap := Z.2.2.2.2.2.2.2.2.1
theorem zt_slen (Z : zC p m c cc nL s args Ts own D k L) (h : zH D k Γ L s F H locs) (hq : zStrs[i]? = some q) (hdg : decode cc pc = .ok (.arraylength, 1))
    (kk : ∀ x : Int32, x.toInt = (q.2.2.2 : Int) → zB 0 6 x → W p l e R s m args below meth c H locs cells slots Q (F0 m (pc + 1) ls (.int x :: rest))) : W p l e R s m args below meth c H locs cells slots Q (F0 m pc ls (.ref (D.2 98 i) :: rest)) := by
  have hT := zE_bytes Z hq
  have hle := zStrs_le q (List.mem_of_getElem? hq)
  have e9 : (Int32.ofNat q.2.2.2).toInt = (q.2.2.2 : Int) := Int32.toInt_ofNat_of_lt (by omega)
  exact va_tlen Z.1.1 Z.1.2.1 hT h.2.2 rfl hdg (kk _ e9 ⟨by omega, by omega⟩)
theorem zt_sald (Z : zC p m c cc nL s args Ts own D k L) (h : zH D k Γ L s F H locs) (hq : zStrs[i]? = some q) {x : Int32} (hx : 0 ≤ x.toInt ∧ x.toInt < q.2.2.2) (hdg : decode cc pc = .ok (.baload, 1))
    (kk : ∀ z : Int32, z = zch i x → zB (-2147483648) 2147483647 z → W p l e R s m args below meth c H locs cells slots Q (F0 m (pc + 1) ls (.int z :: rest))) : W p l e R s m args below meth c H locs cells slots Q (F0 m pc ls (.int x :: .ref (D.2 98 i) :: rest)) := by
  have hT := zE_bytes Z hq
  exact va_tb Z.1.1 Z.1.2.1 hT h.2.2 (z_idx (lo := 0) (hi := x.toInt) ⟨hx.1, Int.le_refl _⟩ ⟨Int.le_refl _, hx.2⟩) rfl hdg (kk _ rfl (zB.all _))
theorem zi_shr0 {x y : Int32} (by_ : zB 0 0 y) (kk : W p l e R s m args below meth c H locs cells slots Q (F0 m pc ls (.int x :: rest))) : W p l e R s m args below meth c H locs cells slots Q (F0 m pc ls (.int (x >>> (y &&& 31)) :: rest)) := by
  have hy : y = 0 := by
    apply Int32.toInt_inj.mp
    have e0 : (0 : Int32).toInt = 0 := by decide
    have := by_.1
    have := by_.2
    omega
  subst hy
  have e : x >>> ((0 : Int32) &&& 31) = x := by
    apply Int32.toBitVec_inj.mp
    simp
  rw [e]
  exact kk
end
section
variable {p : Program} {l : Launch} {e : Env} {R : Room} {s : State} {m : MethodId} {args : Array Value} {below : List Frame} {meth : Method} {c : Code} {H : Heap} {locs : List Loc} {cells slots : Nat} {Q : State → Prop} {g : JFrame}
theorem z_start2 (kk : ∀ (R' : Room) (Q' : State → Prop), R'.frames = R.frames → R'.locals = R.locals → R'.cells = R.cells → R'.slots = R.slots → Q' = Q → W p l e R' s m args below meth c H locs cells slots Q' g) : W p l e R s m args below meth c H locs cells slots Q g := kk R Q rfl rfl rfl rfl rfl
theorem zP_kept {D : va_G} {k : Nat → ClassId} {Γ : Nat → Option Nat} {L : List Nat} {F : Nat → va_E} {H' : Heap} (h : zH D k Γ L s F H locs) (h2 : ∀ q : Nat, q < H.size → H'[q]? = H[q]?) : va_P D z_Cl (va_pl L F) H' := fun j q hj => (h.1 j q hj).kept (h2 q.1 (h.1 j q hj).lt)
end
section
variable {p : Program} {l : Launch} {e : Env} {R : Room} {s : State} {m : MethodId} {args : Array Value} {below : List Frame} {meth : Method} {c : Code} {H : Heap} {locs : List Loc} {cells slots : Nat} {Q : State → Prop}
variable {cc : ByteArray} {pc nL : Nat} {ls : Array Slot} {rest st0 : List Value} {D : va_G} {k : Nat → ClassId} {Γ : Nat → Option Nat} {L : List Nat} {F : Nat → va_E} {Ts : List Cond} {own C : String} {t b n index maxL : Nat} {y : MethodName} {ws : List Cond} {rm : Room} {bytes : ByteArray} {ret : Option FieldType} {As : List Value} {M : List Nat} {q : u_T × Nat}
theorem zk_Sv {post : (Nat → va_E) → Prop} (Z : zC p m c cc nL s args Ts own D k L) (h : zH D k Γ L s F H locs) (hM : Met l y ws rm (va_Pc As (zP D k Γ L F H.size)) (va_Qv post (zQ D k Γ L F M) (zA L H.size)) 0 0 (zA L H.size)) (cw : CallB R s args own index y bytes maxL ret ws rm 0 0 n ∧ (Cond.static y).before args s = true) (hn : As.length = n) (hsz : ls.size = nL) (hst : st0 = As.reverse ++ rest) (hW : (rest.map fun v => v.category).sum ≤ 8) (hdg : decode cc pc = .ok (.invokestatic index, 3)) (hf : cells ≤ R.cells ∧ slots ≤ R.slots)
    (kk : ∀ (F1 : Nat → va_E) (H1 : Heap) (locs1 : List Loc), post F1 → zH D k Γ L s F1 H1 locs1 → zFr Γ M F F1 → W p l e R s m args below meth c H1 locs1 cells slots Q (F0 m (pc + 3) ls rest)) : W p l e R s m args below meth c H locs cells slots Q (F0 m pc ls st0) :=
  va_callv (va_runS (As := As) (rest := rest) Z.1 hM cw ⟨zP_blind, zP_pre Z h⟩ rfl hn hsz hst (lv_room hW) hdg hf) h.2.2 (fun q _ g => zA_in h.2.2 q g) (zA_in h.2.2) (fun u t H1 locs1 ht _ hp hB _ _ hS => kk u H1 locs1 hp ⟨by rw [← ht]; exact hB.1, hB.2.1, hS⟩ hB.2.2)
end
theorem zs_0 : zStrs[0]? = some (RX8, 80, "def", 3) := rfl
theorem zsR_0 {p : Program} {m : MethodId} {c : Code} {cc : ByteArray} {nL : Nat} {s : State} {args : Array Value} {Ts : List Cond} {own : String} {D : va_G} {k : Nat → ClassId} {L : List Nat} (Z : zC p m c cc nL s args Ts own D k L) : vk_R RX8 80 "def" (D.2 99 0) s := zE_R (i := 0) (q := (RX8, 80, "def", 3)) Z zs_0
theorem zs_1 : zStrs[1]? = some (RX8, 86, "say", 3) := rfl
theorem zsR_1 {p : Program} {m : MethodId} {c : Code} {cc : ByteArray} {nL : Nat} {s : State} {args : Array Value} {Ts : List Cond} {own : String} {D : va_G} {k : Nat → ClassId} {L : List Nat} (Z : zC p m c cc nL s args Ts own D k L) : vk_R RX8 86 "say" (D.2 99 1) s := zE_R (i := 1) (q := (RX8, 86, "say", 3)) Z zs_1
theorem zs_2 : zStrs[2]? = some (RX8, 88, "return", 6) := rfl
theorem zsR_2 {p : Program} {m : MethodId} {c : Code} {cc : ByteArray} {nL : Nat} {s : State} {args : Array Value} {Ts : List Cond} {own : String} {D : va_G} {k : Nat → ClassId} {L : List Nat} (Z : zC p m c cc nL s args Ts own D k L) : vk_R RX8 88 "return" (D.2 99 2) s := zE_R (i := 2) (q := (RX8, 88, "return", 6)) Z zs_2
theorem zs_3 : zStrs[3]? = some (RX8, 90, "if", 2) := rfl
theorem zsR_3 {p : Program} {m : MethodId} {c : Code} {cc : ByteArray} {nL : Nat} {s : State} {args : Array Value} {Ts : List Cond} {own : String} {D : va_G} {k : Nat → ClassId} {L : List Nat} (Z : zC p m c cc nL s args Ts own D k L) : vk_R RX8 90 "if" (D.2 99 3) s := zE_R (i := 3) (q := (RX8, 90, "if", 2)) Z zs_3
theorem zs_4 : zStrs[4]? = some (RX8, 92, "else", 4) := rfl
theorem zsR_4 {p : Program} {m : MethodId} {c : Code} {cc : ByteArray} {nL : Nat} {s : State} {args : Array Value} {Ts : List Cond} {own : String} {D : va_G} {k : Nat → ClassId} {L : List Nat} (Z : zC p m c cc nL s args Ts own D k L) : vk_R RX8 92 "else" (D.2 99 4) s := zE_R (i := 4) (q := (RX8, 92, "else", 4)) Z zs_4
theorem zs_5 : zStrs[5]? = some (RX8, 94, "while", 5) := rfl
theorem zsR_5 {p : Program} {m : MethodId} {c : Code} {cc : ByteArray} {nL : Nat} {s : State} {args : Array Value} {Ts : List Cond} {own : String} {D : va_G} {k : Nat → ClassId} {L : List Nat} (Z : zC p m c cc nL s args Ts own D k L) : vk_R RX8 94 "while" (D.2 99 5) s := zE_R (i := 5) (q := (RX8, 94, "while", 5)) Z zs_5
theorem zs_6 : zStrs[6]? = some (RX14, 152, "def", 3) := rfl
theorem zsR_6 {p : Program} {m : MethodId} {c : Code} {cc : ByteArray} {nL : Nat} {s : State} {args : Array Value} {Ts : List Cond} {own : String} {D : va_G} {k : Nat → ClassId} {L : List Nat} (Z : zC p m c cc nL s args Ts own D k L) : vk_R RX14 152 "def" (D.2 99 6) s := zE_R (i := 6) (q := (RX14, 152, "def", 3)) Z zs_6
theorem zs_7 : zStrs[7]? = some (RX14, 158, "say", 3) := rfl
theorem zsR_7 {p : Program} {m : MethodId} {c : Code} {cc : ByteArray} {nL : Nat} {s : State} {args : Array Value} {Ts : List Cond} {own : String} {D : va_G} {k : Nat → ClassId} {L : List Nat} (Z : zC p m c cc nL s args Ts own D k L) : vk_R RX14 158 "say" (D.2 99 7) s := zE_R (i := 7) (q := (RX14, 158, "say", 3)) Z zs_7
theorem zs_8 : zStrs[8]? = some (RX14, 160, "return", 6) := rfl
theorem zsR_8 {p : Program} {m : MethodId} {c : Code} {cc : ByteArray} {nL : Nat} {s : State} {args : Array Value} {Ts : List Cond} {own : String} {D : va_G} {k : Nat → ClassId} {L : List Nat} (Z : zC p m c cc nL s args Ts own D k L) : vk_R RX14 160 "return" (D.2 99 8) s := zE_R (i := 8) (q := (RX14, 160, "return", 6)) Z zs_8
theorem zs_9 : zStrs[9]? = some (RX14, 162, "if", 2) := rfl
theorem zsR_9 {p : Program} {m : MethodId} {c : Code} {cc : ByteArray} {nL : Nat} {s : State} {args : Array Value} {Ts : List Cond} {own : String} {D : va_G} {k : Nat → ClassId} {L : List Nat} (Z : zC p m c cc nL s args Ts own D k L) : vk_R RX14 162 "if" (D.2 99 9) s := zE_R (i := 9) (q := (RX14, 162, "if", 2)) Z zs_9
theorem zs_10 : zStrs[10]? = some (RX14, 164, "else", 4) := rfl
theorem zsR_10 {p : Program} {m : MethodId} {c : Code} {cc : ByteArray} {nL : Nat} {s : State} {args : Array Value} {Ts : List Cond} {own : String} {D : va_G} {k : Nat → ClassId} {L : List Nat} (Z : zC p m c cc nL s args Ts own D k L) : vk_R RX14 164 "else" (D.2 99 10) s := zE_R (i := 10) (q := (RX14, 164, "else", 4)) Z zs_10
theorem zs_11 : zStrs[11]? = some (RX14, 166, "while", 5) := rfl
theorem zsR_11 {p : Program} {m : MethodId} {c : Code} {cc : ByteArray} {nL : Nat} {s : State} {args : Array Value} {Ts : List Cond} {own : String} {D : va_G} {k : Nat → ClassId} {L : List Nat} (Z : zC p m c cc nL s args Ts own D k L) : vk_R RX14 166 "while" (D.2 99 11) s := zE_R (i := 11) (q := (RX14, 166, "while", 5)) Z zs_11
