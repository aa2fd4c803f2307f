/-! decode rows -/
theorem d_Port_init_0 : decode b_Port_init 0 = .ok (.aload_n 0, 1) := by decide +kernel
theorem d_Port_init_1 : decode b_Port_init 1 = .ok (.invokespecial 1, 3) := by decide +kernel
theorem d_Port_init_4 : decode b_Port_init 4 = .ok (.return_, 1) := by decide +kernel
theorem d_Function_init_0 : decode b_Function_init 0 = .ok (.aload_n 0, 1) := by decide +kernel
theorem d_Function_init_1 : decode b_Function_init 1 = .ok (.invokespecial 1, 3) := by decide +kernel
theorem d_Function_init_4 : decode b_Function_init 4 = .ok (.return_, 1) := by decide +kernel
theorem d_Part_init_0 : decode b_Part_init 0 = .ok (.aload_n 0, 1) := by decide +kernel
theorem d_Part_init_1 : decode b_Part_init 1 = .ok (.invokespecial 1, 3) := by decide +kernel
theorem d_Part_init_4 : decode b_Part_init 4 = .ok (.return_, 1) := by decide +kernel
theorem d_Block_init_0 : decode b_Block_init 0 = .ok (.aload_n 0, 1) := by decide +kernel
theorem d_Block_init_1 : decode b_Block_init 1 = .ok (.invokespecial 1, 3) := by decide +kernel
theorem d_Block_init_4 : decode b_Block_init 4 = .ok (.return_, 1) := by decide +kernel
theorem d_Reader_init_0 : decode b_Reader_init 0 = .ok (.aload_n 0, 1) := by decide +kernel
theorem d_Reader_init_1 : decode b_Reader_init 1 = .ok (.invokespecial 3, 3) := by decide +kernel
theorem d_Reader_init_4 : decode b_Reader_init 4 = .ok (.aload_n 0, 1) := by decide +kernel
theorem d_Reader_init_5 : decode b_Reader_init 5 = .ok (.iconst 0, 1) := by decide +kernel
theorem d_Reader_init_6 : decode b_Reader_init 6 = .ok (.newarray .byte, 2) := by decide +kernel
theorem d_Reader_init_8 : decode b_Reader_init 8 = .ok (.putfield 9, 3) := by decide +kernel
theorem d_Reader_init_11 : decode b_Reader_init 11 = .ok (.aload_n 0, 1) := by decide +kernel
theorem d_Reader_init_12 : decode b_Reader_init 12 = .ok (.bipush 21, 2) := by decide +kernel
theorem d_Reader_init_14 : decode b_Reader_init 14 = .ok (.newarray .int, 2) := by decide +kernel
theorem d_Reader_init_16 : decode b_Reader_init 16 = .ok (.putfield 15, 3) := by decide +kernel
theorem d_Reader_init_19 : decode b_Reader_init 19 = .ok (.return_, 1) := by decide +kernel
