/-! these rows are read over the whole library (part 80 names a theorem of the part of it that a round first leaves out): said at once, in the first part -/
theorem am_wide : @Jvm.Stand.multianewarray2F = @Jvm.Stand.multianewarray2F := rfl
