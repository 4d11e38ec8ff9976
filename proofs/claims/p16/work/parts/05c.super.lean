/-! the constructors above LessonMakerModel$Stop: names and decode rows -/
def RT : String := "java/lang/Throwable"
def RE : String := "java/lang/Exception"
def RR : String := "java/lang/RuntimeException"
abbrev cT_init : ByteArray := prog_26_method_5_code
abbrev cE_init : ByteArray := prog_17_method_5_code
abbrev cR_init : ByteArray := prog_21_method_5_code
def yT_init : MethodName := ⟨RT, "<init>", "(Ljava/lang/String;Ljava/lang/Throwable;ZZ)V"⟩
def yE_init : MethodName := ⟨RE, "<init>", "(Ljava/lang/String;Ljava/lang/Throwable;ZZ)V"⟩
def yR_init : MethodName := ⟨RR, "<init>", "(Ljava/lang/String;Ljava/lang/Throwable;ZZ)V"⟩
theorem dT_init_0 : decode cT_init 0 = .ok (.aload_n 0, 1) := by decide +kernel
theorem dT_init_1 : decode cT_init 1 = .ok (.invokespecial 1, 3) := by decide +kernel
theorem dT_init_4 : decode cT_init 4 = .ok (.aload_n 0, 1) := by decide +kernel
theorem dT_init_5 : decode cT_init 5 = .ok (.aload_n 0, 1) := by decide +kernel
theorem dT_init_6 : decode cT_init 6 = .ok (.putfield 7, 3) := by decide +kernel
theorem dT_init_9 : decode cT_init 9 = .ok (.aload_n 0, 1) := by decide +kernel
theorem dT_init_10 : decode cT_init 10 = .ok (.getstatic 13, 3) := by decide +kernel
theorem dT_init_13 : decode cT_init 13 = .ok (.putfield 17, 3) := by decide +kernel
theorem dT_init_16 : decode cT_init 16 = .ok (.aload_n 0, 1) := by decide +kernel
theorem dT_init_17 : decode cT_init 17 = .ok (.getstatic 20, 3) := by decide +kernel
theorem dT_init_20 : decode cT_init 20 = .ok (.putfield 24, 3) := by decide +kernel
theorem dT_init_23 : decode cT_init 23 = .ok (.iload 4, 2) := by decide +kernel
theorem dT_init_25 : decode cT_init 25 = .ok (.ifCond .eq 11, 3) := by decide +kernel
theorem dT_init_36 : decode cT_init 36 = .ok (.aload_n 0, 1) := by decide +kernel
theorem dT_init_37 : decode cT_init 37 = .ok (.aconst_null, 1) := by decide +kernel
theorem dT_init_38 : decode cT_init 38 = .ok (.putfield 17, 3) := by decide +kernel
theorem dT_init_41 : decode cT_init 41 = .ok (.aload_n 0, 1) := by decide +kernel
theorem dT_init_42 : decode cT_init 42 = .ok (.aload_n 1, 1) := by decide +kernel
theorem dT_init_43 : decode cT_init 43 = .ok (.putfield 31, 3) := by decide +kernel
theorem dT_init_46 : decode cT_init 46 = .ok (.aload_n 0, 1) := by decide +kernel
theorem dT_init_47 : decode cT_init 47 = .ok (.aload_n 2, 1) := by decide +kernel
theorem dT_init_48 : decode cT_init 48 = .ok (.putfield 7, 3) := by decide +kernel
theorem dT_init_51 : decode cT_init 51 = .ok (.iload_n 3, 1) := by decide +kernel
theorem dT_init_52 : decode cT_init 52 = .ok (.ifCond .ne 8, 3) := by decide +kernel
theorem dT_init_55 : decode cT_init 55 = .ok (.aload_n 0, 1) := by decide +kernel
theorem dT_init_56 : decode cT_init 56 = .ok (.aconst_null, 1) := by decide +kernel
theorem dT_init_57 : decode cT_init 57 = .ok (.putfield 24, 3) := by decide +kernel
theorem dT_init_60 : decode cT_init 60 = .ok (.return_, 1) := by decide +kernel
theorem dE_init_0 : decode cE_init 0 = .ok (.aload_n 0, 1) := by decide +kernel
theorem dE_init_1 : decode cE_init 1 = .ok (.aload_n 1, 1) := by decide +kernel
theorem dE_init_2 : decode cE_init 2 = .ok (.aload_n 2, 1) := by decide +kernel
theorem dE_init_3 : decode cE_init 3 = .ok (.iload_n 3, 1) := by decide +kernel
theorem dE_init_4 : decode cE_init 4 = .ok (.iload 4, 2) := by decide +kernel
theorem dE_init_6 : decode cE_init 6 = .ok (.invokespecial 16, 3) := by decide +kernel
theorem dE_init_9 : decode cE_init 9 = .ok (.return_, 1) := by decide +kernel
theorem dR_init_0 : decode cR_init 0 = .ok (.aload_n 0, 1) := by decide +kernel
theorem dR_init_1 : decode cR_init 1 = .ok (.aload_n 1, 1) := by decide +kernel
theorem dR_init_2 : decode cR_init 2 = .ok (.aload_n 2, 1) := by decide +kernel
theorem dR_init_3 : decode cR_init 3 = .ok (.iload_n 3, 1) := by decide +kernel
theorem dR_init_4 : decode cR_init 4 = .ok (.iload 4, 2) := by decide +kernel
theorem dR_init_6 : decode cR_init 6 = .ok (.invokespecial 16, 3) := by decide +kernel
theorem dR_init_9 : decode cR_init 9 = .ok (.return_, 1) := by decide +kernel
