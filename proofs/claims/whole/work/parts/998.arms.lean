/-! all arms -/
theorem pi_arms : ps_arms Inv := ⟨arm0, arm1, arm2, arm3, arm4, arm5, arm6, arm7, arm8, arm9, arm10, arm11, arm12, arm13, arm14, arm15, arm16, arm17, arm18, arm19, arm20, arm21, arm22, arm23, arm24, arm25, arm26, arm27, arm28, arm29, arm30, arm31, arm32, arm33, arm34⟩
