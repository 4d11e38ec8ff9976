/-! What program leaves of the reference. -/
def zMyk (u : Nat → va_E) (th sp : Nat) (T : zTS) (d : zDat) : Prop := zfld u th 4 = .ref sp ∧ zfld u th 7 = .int 1 ∧ zfld u th 32 = .int 0 ∧ zRM u sp T d ∧ ∀ f, f < zfc d → zBits (zar u sp 9 f) (zcb T d f)
def zMyn (F u : Nat → va_E) (th pr : Nat) : Prop := zfld u th 4 = .ref pr ∧ zfld u th 7 = zfld F th 7 ∧ zfld u th 32 = zfld F th 32
