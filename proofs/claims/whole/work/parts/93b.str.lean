/-! A TEXT: its length, its letters (the JDK walked) -/
theorem sp_isSpelt {w : Wd} {d : Nat} {P : Option AV → Mem → Prop} {X : Nat → Mem → Prop} {KC KS : Nat} : SpOK w true (d + 4) m_SkyReader_isSpelt k_SkyReader_isSpelt P X KC KS := sorry
