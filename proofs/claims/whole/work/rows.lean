section
theorem zz_test : 1 + 1 = 2 := by
  have h := @Jvm.Stand.multianewarray2F
  rfl
end
