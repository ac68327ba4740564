/-! printed by claim/NAMES: the places of one more method -/
theorem dX19_add__0 : decode cX19_add_ 0 = .ok (.iconst 0, 1) := by decide +kernel
theorem dX19_add__1 : decode cX19_add_ 1 = .ok (.istore 4, 2) := by decide +kernel
theorem dX19_add__3 : decode cX19_add_ 3 = .ok (.iload 4, 2) := by decide +kernel
theorem dX19_add__5 : decode cX19_add_ 5 = .ok (.iload_n 3, 1) := by decide +kernel
theorem dX19_add__6 : decode cX19_add_ 6 = .ok (.if_icmp .ge 19, 3) := by decide +kernel
theorem dX19_add__9 : decode cX19_add_ 9 = .ok (.aload_n 0, 1) := by decide +kernel
theorem dX19_add__10 : decode cX19_add_ 10 = .ok (.aload_n 1, 1) := by decide +kernel
theorem dX19_add__11 : decode cX19_add_ 11 = .ok (.iload_n 2, 1) := by decide +kernel
theorem dX19_add__12 : decode cX19_add_ 12 = .ok (.iload 4, 2) := by decide +kernel
theorem dX19_add__14 : decode cX19_add_ 14 = .ok (.iadd, 1) := by decide +kernel
theorem dX19_add__15 : decode cX19_add_ 15 = .ok (.baload, 1) := by decide +kernel
theorem dX19_add__16 : decode cX19_add_ 16 = .ok (.invokevirtual 21, 3) := by decide +kernel
theorem dX19_add__19 : decode cX19_add_ 19 = .ok (.iinc 4 1, 3) := by decide +kernel
theorem dX19_add__22 : decode cX19_add_ 22 = .ok (.goto (-19), 3) := by decide +kernel
theorem dX19_add__25 : decode cX19_add_ 25 = .ok (.return_, 1) := by decide +kernel
