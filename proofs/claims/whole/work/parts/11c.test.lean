section Q11T
theorem tst1 (a b c : Int64) : a * (b + c) = a * b + c * a := by grind
theorem tst2 (a b c : Int32) : a * (b + c) - b * a = c * a := by grind
end Q11T
