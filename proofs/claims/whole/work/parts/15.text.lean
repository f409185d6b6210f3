def rmJ0_length_8abf5 : Room := rmk 20 0 0 600
def rmJ0_charAt_5068e : Room := rmk 20 0 0 600
theorem nJ0_length_8abf5 : nameOk yJ0_length_8abf5 0 = true := by decide +kernel
theorem nJ0_charAt_5068e : nameOk yJ0_charAt_5068e 1 = true := by decide +kernel
theorem sJ0_length_8abf5 : Snd yJ0_length_8abf5 (.code yJ0_length_8abf5 cJ0_length_8abf5 1 (some .int)) rmJ0_length_8abf5 SJ_length := by
  sorry
theorem sJ0_charAt_5068e : Snd yJ0_charAt_5068e (.code yJ0_charAt_5068e cJ0_charAt_5068e 2 (some .char)) rmJ0_charAt_5068e SJ_charAt := by
  sorry
