/-! ===== the pure side: ints ===== -/
def i32 (v : Int) : Int32 := Int32.ofInt v
def i64 (v : Int) : Int64 := Int64.ofInt v
theorem i32_add (a b : Int) : i32 a + i32 b = i32 (a + b) := (Int32.ofInt_add a b).symm
theorem i32_sub (a b : Int) : i32 a - i32 b = i32 (a - b) := (Int32.ofInt_sub a b).symm
theorem i32_mul (a b : Int) : i32 a * i32 b = i32 (a * b) := (Int32.ofInt_mul a b).symm
theorem i32_neg (a : Int) : -i32 a = i32 (-a) := (Int32.ofInt_neg a).symm
theorem i64_add (a b : Int) : i64 a + i64 b = i64 (a + b) := (Int64.ofInt_add a b).symm
theorem i64_sub (a b : Int) : i64 a - i64 b = i64 (a - b) := (Int64.ofInt_sub a b).symm
theorem i64_mul (a b : Int) : i64 a * i64 b = i64 (a * b) := (Int64.ofInt_mul a b).symm
theorem i64_neg (a : Int) : -i64 a = i64 (-a) := (Int64.ofInt_neg a).symm
theorem i32_lit (n : Nat) : (OfNat.ofNat n : Int32) = i32 (OfNat.ofNat n : Int) := (Int32.ofInt_eq_ofNat (n := n)).symm
theorem i64_lit (n : Nat) : (OfNat.ofNat n : Int64) = i64 (OfNat.ofNat n : Int) := (Int64.ofInt_eq_ofNat (n := n)).symm
theorem nI_i32 (n : Nat) : nI n = i32 (n : Int) := (Int32.ofInt_eq_ofNat (n := n)).symm
theorem i32_toInt {a : Int} (h1 : -2147483648 ≤ a) (h2 : a < 2147483648) : (i32 a).toInt = a := Int32.toInt_ofInt_of_le (by omega) (by omega)
theorem i64_toInt {a : Int} (h1 : -9223372036854775808 ≤ a) (h2 : a < 9223372036854775808) : (i64 a).toInt = a := Int64.toInt_ofInt_of_le (by omega) (by omega)
theorem i32_of (x : Int32) : i32 x.toInt = x := Int32.ofInt_toInt x
theorem i64_of (x : Int64) : i64 x.toInt = x := Int64.ofInt_toInt x
theorem i32_le {a b : Int} (h1 : -2147483648 ≤ a ∧ a < 2147483648) (h2 : -2147483648 ≤ b ∧ b < 2147483648) : (i32 a ≤ i32 b) ↔ a ≤ b := by
  rw [Int32.le_iff_toInt_le, i32_toInt h1.1 h1.2, i32_toInt h2.1 h2.2]
theorem i32_lt {a b : Int} (h1 : -2147483648 ≤ a ∧ a < 2147483648) (h2 : -2147483648 ≤ b ∧ b < 2147483648) : (i32 a < i32 b) ↔ a < b := by
  rw [Int32.lt_iff_toInt_lt, i32_toInt h1.1 h1.2, i32_toInt h2.1 h2.2]
theorem i32_eq {a b : Int} (h1 : -2147483648 ≤ a ∧ a < 2147483648) (h2 : -2147483648 ≤ b ∧ b < 2147483648) : (i32 a = i32 b) ↔ a = b := by
  rw [← Int32.toInt_inj, i32_toInt h1.1 h1.2, i32_toInt h2.1 h2.2]
theorem i64_le {a b : Int} (h1 : -9223372036854775808 ≤ a ∧ a < 9223372036854775808) (h2 : -9223372036854775808 ≤ b ∧ b < 9223372036854775808) : (i64 a ≤ i64 b) ↔ a ≤ b := by
  rw [Int64.le_iff_toInt_le, i64_toInt h1.1 h1.2, i64_toInt h2.1 h2.2]
theorem i64_lt {a b : Int} (h1 : -9223372036854775808 ≤ a ∧ a < 9223372036854775808) (h2 : -9223372036854775808 ≤ b ∧ b < 9223372036854775808) : (i64 a < i64 b) ↔ a < b := by
  rw [Int64.lt_iff_toInt_lt, i64_toInt h1.1 h1.2, i64_toInt h2.1 h2.2]
theorem i64_eq {a b : Int} (h1 : -9223372036854775808 ≤ a ∧ a < 9223372036854775808) (h2 : -9223372036854775808 ≤ b ∧ b < 9223372036854775808) : (i64 a = i64 b) ↔ a = b := by
  rw [← Int64.toInt_inj, i64_toInt h1.1 h1.2, i64_toInt h2.1 h2.2]
theorem i32_long {a : Int} (h1 : -2147483648 ≤ a) (h2 : a < 2147483648) : (i32 a).toInt64 = i64 a := by
  rw [← Int64.toInt_inj, Int32.toInt_toInt64, i32_toInt h1 h2, i64_toInt (by omega) (by omega)]
theorem i64_int (a : Int) : (i64 a).toInt32 = i32 a := Int64.toInt32_ofInt
theorem i32_clamp {a : Int} (h1 : 0 ≤ a) (h2 : a < 2147483648) : (i32 a).toNatClampNeg = a.toNat := by
  rw [← Int32.toNat_toInt, i32_toInt (by omega) h2]
theorem i32_in {a : Int} {n : Nat} (h0 : 0 ≤ a) (h1 : a < n) (h2 : a < 2147483648) : vp_in (i32 a) n := by
  unfold vp_in
  rw [i32_clamp h0 h2, show (0 : Int32) = i32 0 from rfl, i32_lt (by omega) (by omega)]
  omega
theorem i32_div {a b : Int} (h1 : -2147483648 < a) (h2 : a < 2147483648) (h3 : -2147483648 ≤ b) (h4 : b < 2147483648) : i32 a / i32 b = i32 (a.tdiv b) := (Int32.ofInt_tdiv (by rw [show Int32.minValue.toInt = -2147483648 from rfl]; omega) (by rw [show Int32.maxValue.toInt = 2147483647 from rfl]; omega) (by rw [show Int32.minValue.toInt = -2147483648 from rfl]; omega) (by rw [show Int32.maxValue.toInt = 2147483647 from rfl]; omega)).symm
theorem i64_div {a b : Int} (h1 : -9223372036854775808 < a) (h2 : a < 9223372036854775808) (h3 : -9223372036854775808 ≤ b) (h4 : b < 9223372036854775808) : i64 a / i64 b = i64 (a.tdiv b) := (Int64.ofInt_tdiv (by rw [show Int64.minValue.toInt = -9223372036854775808 from rfl]; omega) (by rw [show Int64.maxValue.toInt = 9223372036854775807 from rfl]; omega) (by rw [show Int64.minValue.toInt = -9223372036854775808 from rfl]; omega) (by rw [show Int64.maxValue.toInt = 9223372036854775807 from rfl]; omega)).symm
/-! ===== the pure side: places by trees ===== -/
def kb (q : Nat) : Nat × Nat := cond (Nat.ble 218 q) (9, 0) (cond (Nat.ble 109 q) (cond (Nat.ble 163 q) (cond (Nat.ble 190 q) (cond (Nat.ble 204 q) (cond (Nat.ble 211 q) (cond (Nat.ble 214 q) (cond (Nat.ble 216 q) (cond (Nat.ble 217 q) ((4, 1)) ((2, 400))) (cond (Nat.ble 215 q) ((2, 900)) ((1, 12)))) (cond (Nat.ble 212 q) (cond (Nat.ble 213 q) ((1, 12)) ((1, 12))) ((3, 144)))) (cond (Nat.ble 207 q) (cond (Nat.ble 209 q) (cond (Nat.ble 210 q) ((1, 144)) ((1, 144))) (cond (Nat.ble 208 q) ((1, 144)) ((1, 66)))) (cond (Nat.ble 205 q) (cond (Nat.ble 206 q) ((1, 3080)) ((1, 308))) ((1, 308))))) (cond (Nat.ble 197 q) (cond (Nat.ble 200 q) (cond (Nat.ble 202 q) (cond (Nat.ble 203 q) ((1, 308)) ((1, 308))) (cond (Nat.ble 201 q) ((1, 308)) ((0, 11)))) (cond (Nat.ble 198 q) (cond (Nat.ble 199 q) ((1, 12)) ((0, 2))) ((1, 40)))) (cond (Nat.ble 193 q) (cond (Nat.ble 195 q) (cond (Nat.ble 196 q) ((1, 40)) ((1, 480))) (cond (Nat.ble 194 q) ((1, 40)) ((1, 40)))) (cond (Nat.ble 191 q) (cond (Nat.ble 192 q) ((1, 40)) ((0, 4))) ((1, 144)))))) (cond (Nat.ble 176 q) (cond (Nat.ble 183 q) (cond (Nat.ble 186 q) (cond (Nat.ble 188 q) (cond (Nat.ble 189 q) ((1, 144)) ((1, 12))) (cond (Nat.ble 187 q) ((1, 40)) ((1, 40)))) (cond (Nat.ble 184 q) (cond (Nat.ble 185 q) ((0, 1)) ((1, 40))) ((1, 40)))) (cond (Nat.ble 179 q) (cond (Nat.ble 181 q) (cond (Nat.ble 182 q) ((1, 40)) ((1, 40))) (cond (Nat.ble 180 q) ((1, 40)) ((1, 40)))) (cond (Nat.ble 177 q) (cond (Nat.ble 178 q) ((1, 40)) ((1, 40))) ((1, 40))))) (cond (Nat.ble 169 q) (cond (Nat.ble 172 q) (cond (Nat.ble 174 q) (cond (Nat.ble 175 q) ((1, 144)) ((1, 40))) (cond (Nat.ble 173 q) ((1, 40)) ((1, 40)))) (cond (Nat.ble 170 q) (cond (Nat.ble 171 q) ((0, 0)) ((1, 11))) ((0, 8)))) (cond (Nat.ble 166 q) (cond (Nat.ble 167 q) (cond (Nat.ble 168 q) ((1, 5)) ((1, 40))) ((1, 40))) (cond (Nat.ble 164 q) (cond (Nat.ble 165 q) ((1, 40)) ((1, 40))) ((1, 40))))))) (cond (Nat.ble 136 q) (cond (Nat.ble 149 q) (cond (Nat.ble 156 q) (cond (Nat.ble 159 q) (cond (Nat.ble 161 q) (cond (Nat.ble 162 q) ((1, 40)) ((1, 12))) (cond (Nat.ble 160 q) ((1, 12)) ((1, 12)))) (cond (Nat.ble 157 q) (cond (Nat.ble 158 q) ((1, 4)) ((0, 6))) ((1, 12)))) (cond (Nat.ble 152 q) (cond (Nat.ble 154 q) (cond (Nat.ble 155 q) ((1, 12)) ((0, 9))) (cond (Nat.ble 153 q) ((0, 5)) ((1, 40)))) (cond (Nat.ble 150 q) (cond (Nat.ble 151 q) ((1, 40)) ((1, 40))) ((1, 40))))) (cond (Nat.ble 142 q) (cond (Nat.ble 145 q) (cond (Nat.ble 147 q) (cond (Nat.ble 148 q) ((1, 40)) ((1, 40))) (cond (Nat.ble 146 q) ((1, 12)) ((1, 12)))) (cond (Nat.ble 143 q) (cond (Nat.ble 144 q) ((1, 12)) ((1, 4))) ((0, 6)))) (cond (Nat.ble 139 q) (cond (Nat.ble 140 q) (cond (Nat.ble 141 q) ((1, 40)) ((1, 40))) ((1, 40))) (cond (Nat.ble 137 q) (cond (Nat.ble 138 q) ((1, 40)) ((1, 40))) ((1, 40)))))) (cond (Nat.ble 122 q) (cond (Nat.ble 129 q) (cond (Nat.ble 132 q) (cond (Nat.ble 134 q) (cond (Nat.ble 135 q) ((1, 12)) ((1, 12))) (cond (Nat.ble 133 q) ((1, 12)) ((1, 4)))) (cond (Nat.ble 130 q) (cond (Nat.ble 131 q) ((0, 6)) ((1, 40))) ((1, 40)))) (cond (Nat.ble 125 q) (cond (Nat.ble 127 q) (cond (Nat.ble 128 q) ((1, 40)) ((1, 40))) (cond (Nat.ble 126 q) ((1, 40)) ((1, 40)))) (cond (Nat.ble 123 q) (cond (Nat.ble 124 q) ((1, 12)) ((1, 12))) ((1, 12))))) (cond (Nat.ble 115 q) (cond (Nat.ble 118 q) (cond (Nat.ble 120 q) (cond (Nat.ble 121 q) ((1, 4)) ((0, 6))) (cond (Nat.ble 119 q) ((1, 40)) ((1, 40)))) (cond (Nat.ble 116 q) (cond (Nat.ble 117 q) ((1, 40)) ((1, 40))) ((1, 40)))) (cond (Nat.ble 112 q) (cond (Nat.ble 113 q) (cond (Nat.ble 114 q) ((1, 40)) ((1, 12))) ((1, 12))) (cond (Nat.ble 110 q) (cond (Nat.ble 111 q) ((1, 12)) ((1, 4))) ((0, 6)))))))) (cond (Nat.ble 54 q) (cond (Nat.ble 81 q) (cond (Nat.ble 95 q) (cond (Nat.ble 102 q) (cond (Nat.ble 105 q) (cond (Nat.ble 107 q) (cond (Nat.ble 108 q) ((1, 40)) ((1, 40))) (cond (Nat.ble 106 q) ((1, 40)) ((1, 40)))) (cond (Nat.ble 103 q) (cond (Nat.ble 104 q) ((1, 40)) ((1, 40))) ((1, 12)))) (cond (Nat.ble 98 q) (cond (Nat.ble 100 q) (cond (Nat.ble 101 q) ((1, 12)) ((1, 12))) (cond (Nat.ble 99 q) ((1, 4)) ((0, 6)))) (cond (Nat.ble 96 q) (cond (Nat.ble 97 q) ((1, 40)) ((1, 40))) ((1, 40))))) (cond (Nat.ble 88 q) (cond (Nat.ble 91 q) (cond (Nat.ble 93 q) (cond (Nat.ble 94 q) ((1, 40)) ((1, 40))) (cond (Nat.ble 92 q) ((1, 40)) ((1, 12)))) (cond (Nat.ble 89 q) (cond (Nat.ble 90 q) ((1, 12)) ((1, 12))) ((1, 4)))) (cond (Nat.ble 84 q) (cond (Nat.ble 86 q) (cond (Nat.ble 87 q) ((0, 6)) ((1, 40))) (cond (Nat.ble 85 q) ((1, 40)) ((1, 40)))) (cond (Nat.ble 82 q) (cond (Nat.ble 83 q) ((1, 40)) ((1, 40))) ((1, 40)))))) (cond (Nat.ble 67 q) (cond (Nat.ble 74 q) (cond (Nat.ble 77 q) (cond (Nat.ble 79 q) (cond (Nat.ble 80 q) ((1, 12)) ((1, 12))) (cond (Nat.ble 78 q) ((1, 12)) ((1, 4)))) (cond (Nat.ble 75 q) (cond (Nat.ble 76 q) ((0, 6)) ((1, 40))) ((1, 40)))) (cond (Nat.ble 70 q) (cond (Nat.ble 72 q) (cond (Nat.ble 73 q) ((1, 40)) ((1, 40))) (cond (Nat.ble 71 q) ((1, 40)) ((1, 40)))) (cond (Nat.ble 68 q) (cond (Nat.ble 69 q) ((1, 12)) ((1, 12))) ((1, 12))))) (cond (Nat.ble 60 q) (cond (Nat.ble 63 q) (cond (Nat.ble 65 q) (cond (Nat.ble 66 q) ((1, 4)) ((0, 6))) (cond (Nat.ble 64 q) ((1, 40)) ((1, 40)))) (cond (Nat.ble 61 q) (cond (Nat.ble 62 q) ((1, 40)) ((1, 40))) ((1, 40)))) (cond (Nat.ble 57 q) (cond (Nat.ble 58 q) (cond (Nat.ble 59 q) ((1, 40)) ((1, 12))) ((1, 12))) (cond (Nat.ble 55 q) (cond (Nat.ble 56 q) ((1, 12)) ((1, 4))) ((0, 6))))))) (cond (Nat.ble 27 q) (cond (Nat.ble 40 q) (cond (Nat.ble 47 q) (cond (Nat.ble 50 q) (cond (Nat.ble 52 q) (cond (Nat.ble 53 q) ((1, 40)) ((1, 40))) (cond (Nat.ble 51 q) ((1, 40)) ((1, 40)))) (cond (Nat.ble 48 q) (cond (Nat.ble 49 q) ((1, 40)) ((1, 40))) ((1, 12)))) (cond (Nat.ble 43 q) (cond (Nat.ble 45 q) (cond (Nat.ble 46 q) ((1, 12)) ((1, 12))) (cond (Nat.ble 44 q) ((1, 4)) ((0, 6)))) (cond (Nat.ble 41 q) (cond (Nat.ble 42 q) ((5, 10)) ((0, 3))) ((1, 40))))) (cond (Nat.ble 33 q) (cond (Nat.ble 36 q) (cond (Nat.ble 38 q) (cond (Nat.ble 39 q) ((1, 40)) ((1, 40))) (cond (Nat.ble 37 q) ((1, 40)) ((1, 40)))) (cond (Nat.ble 34 q) (cond (Nat.ble 35 q) ((1, 40)) ((1, 12))) ((1, 12)))) (cond (Nat.ble 30 q) (cond (Nat.ble 31 q) (cond (Nat.ble 32 q) ((1, 12)) ((1, 4))) ((0, 6))) (cond (Nat.ble 28 q) (cond (Nat.ble 29 q) ((1, 40)) ((1, 40))) ((1, 40)))))) (cond (Nat.ble 13 q) (cond (Nat.ble 20 q) (cond (Nat.ble 23 q) (cond (Nat.ble 25 q) (cond (Nat.ble 26 q) ((1, 40)) ((1, 40))) (cond (Nat.ble 24 q) ((1, 40)) ((1, 12)))) (cond (Nat.ble 21 q) (cond (Nat.ble 22 q) ((1, 12)) ((1, 12))) ((1, 4)))) (cond (Nat.ble 16 q) (cond (Nat.ble 18 q) (cond (Nat.ble 19 q) ((0, 6)) ((1, 40))) (cond (Nat.ble 17 q) ((1, 40)) ((1, 40)))) (cond (Nat.ble 14 q) (cond (Nat.ble 15 q) ((1, 40)) ((1, 40))) ((1, 40))))) (cond (Nat.ble 6 q) (cond (Nat.ble 9 q) (cond (Nat.ble 11 q) (cond (Nat.ble 12 q) ((1, 12)) ((1, 12))) (cond (Nat.ble 10 q) ((1, 12)) ((1, 4)))) (cond (Nat.ble 7 q) (cond (Nat.ble 8 q) ((0, 6)) ((1, 12))) ((1, 12)))) (cond (Nat.ble 3 q) (cond (Nat.ble 4 q) (cond (Nat.ble 5 q) ((0, 9)) ((1, 400))) ((0, 7))) (cond (Nat.ble 1 q) (cond (Nat.ble 2 q) ((1, 900)) ((0, 7))) ((0, 10)))))))))
def rb (q : Nat) : List (Option Nat) := cond (Nat.ble 218 q) [] (cond (Nat.ble 109 q) (cond (Nat.ble 163 q) (cond (Nat.ble 190 q) (cond (Nat.ble 204 q) (cond (Nat.ble 211 q) (cond (Nat.ble 214 q) (cond (Nat.ble 216 q) (cond (Nat.ble 217 q) ([]) ([])) (cond (Nat.ble 215 q) ([]) ([]))) (cond (Nat.ble 212 q) (cond (Nat.ble 213 q) ([]) ([])) ([]))) (cond (Nat.ble 207 q) (cond (Nat.ble 209 q) (cond (Nat.ble 210 q) ([]) ([])) (cond (Nat.ble 208 q) ([]) ([]))) (cond (Nat.ble 205 q) (cond (Nat.ble 206 q) ([]) ([])) ([])))) (cond (Nat.ble 197 q) (cond (Nat.ble 200 q) (cond (Nat.ble 202 q) (cond (Nat.ble 203 q) ([]) ([])) (cond (Nat.ble 201 q) ([]) ([none, some 201, some 202, some 203, some 204, some 205, some 206, none, none, some 207, none, some 208, some 209, some 210, some 211, some 212, some 213, none, some 214, some 215, none, none, none, none, none, none, none, none, none, none, some 216]))) (cond (Nat.ble 198 q) (cond (Nat.ble 199 q) ([]) ([some 171, some 199])) ([]))) (cond (Nat.ble 193 q) (cond (Nat.ble 195 q) (cond (Nat.ble 196 q) ([]) ([])) (cond (Nat.ble 194 q) ([]) ([]))) (cond (Nat.ble 191 q) (cond (Nat.ble 192 q) ([]) ([some 171, some 185, none, none, some 192, some 193, some 194, some 195, some 196, some 197])) ([]))))) (cond (Nat.ble 176 q) (cond (Nat.ble 183 q) (cond (Nat.ble 186 q) (cond (Nat.ble 188 q) (cond (Nat.ble 189 q) ([]) ([])) (cond (Nat.ble 187 q) ([]) ([]))) (cond (Nat.ble 184 q) (cond (Nat.ble 185 q) ([some 171, none, some 186, some 187, some 188, some 189, some 190]) ([])) ([]))) (cond (Nat.ble 179 q) (cond (Nat.ble 181 q) (cond (Nat.ble 182 q) ([]) ([])) (cond (Nat.ble 180 q) ([]) ([]))) (cond (Nat.ble 177 q) (cond (Nat.ble 178 q) ([]) ([])) ([])))) (cond (Nat.ble 169 q) (cond (Nat.ble 172 q) (cond (Nat.ble 174 q) (cond (Nat.ble 175 q) ([]) ([])) (cond (Nat.ble 173 q) ([]) ([]))) (cond (Nat.ble 170 q) (cond (Nat.ble 171 q) ([some 5, none, none, none, some 172, some 173, some 174, some 175, some 176, some 177, some 178, some 179, some 180, some 181, some 182, some 183, some 184]) ([])) ([some 1, some 170]))) (cond (Nat.ble 166 q) (cond (Nat.ble 167 q) (cond (Nat.ble 168 q) ([]) ([])) ([])) (cond (Nat.ble 164 q) (cond (Nat.ble 165 q) ([]) ([])) ([])))))) (cond (Nat.ble 136 q) (cond (Nat.ble 149 q) (cond (Nat.ble 156 q) (cond (Nat.ble 159 q) (cond (Nat.ble 161 q) (cond (Nat.ble 162 q) ([]) ([])) (cond (Nat.ble 160 q) ([]) ([]))) (cond (Nat.ble 157 q) (cond (Nat.ble 158 q) ([]) ([some 158, none, none, some 159, some 160, some 161, none, some 162, some 163, some 164, some 165, some 166, some 167])) ([]))) (cond (Nat.ble 152 q) (cond (Nat.ble 154 q) (cond (Nat.ble 155 q) ([]) ([none, some 155, some 156])) (cond (Nat.ble 153 q) ([some 169, some 154, some 157, some 168]) ([]))) (cond (Nat.ble 150 q) (cond (Nat.ble 151 q) ([]) ([])) ([])))) (cond (Nat.ble 142 q) (cond (Nat.ble 145 q) (cond (Nat.ble 147 q) (cond (Nat.ble 148 q) ([]) ([])) (cond (Nat.ble 146 q) ([]) ([]))) (cond (Nat.ble 143 q) (cond (Nat.ble 144 q) ([]) ([])) ([some 143, none, none, some 144, some 145, some 146, none, some 147, some 148, some 149, some 150, some 151, some 152]))) (cond (Nat.ble 139 q) (cond (Nat.ble 140 q) (cond (Nat.ble 141 q) ([]) ([])) ([])) (cond (Nat.ble 137 q) (cond (Nat.ble 138 q) ([]) ([])) ([]))))) (cond (Nat.ble 122 q) (cond (Nat.ble 129 q) (cond (Nat.ble 132 q) (cond (Nat.ble 134 q) (cond (Nat.ble 135 q) ([]) ([])) (cond (Nat.ble 133 q) ([]) ([]))) (cond (Nat.ble 130 q) (cond (Nat.ble 131 q) ([some 132, none, none, some 133, some 134, some 135, none, some 136, some 137, some 138, some 139, some 140, some 141]) ([])) ([]))) (cond (Nat.ble 125 q) (cond (Nat.ble 127 q) (cond (Nat.ble 128 q) ([]) ([])) (cond (Nat.ble 126 q) ([]) ([]))) (cond (Nat.ble 123 q) (cond (Nat.ble 124 q) ([]) ([])) ([])))) (cond (Nat.ble 115 q) (cond (Nat.ble 118 q) (cond (Nat.ble 120 q) (cond (Nat.ble 121 q) ([]) ([some 121, none, none, some 122, some 123, some 124, none, some 125, some 126, some 127, some 128, some 129, some 130])) (cond (Nat.ble 119 q) ([]) ([]))) (cond (Nat.ble 116 q) (cond (Nat.ble 117 q) ([]) ([])) ([]))) (cond (Nat.ble 112 q) (cond (Nat.ble 113 q) (cond (Nat.ble 114 q) ([]) ([])) ([])) (cond (Nat.ble 110 q) (cond (Nat.ble 111 q) ([]) ([])) ([some 110, none, none, some 111, some 112, some 113, none, some 114, some 115, some 116, some 117, some 118, some 119]))))))) (cond (Nat.ble 54 q) (cond (Nat.ble 81 q) (cond (Nat.ble 95 q) (cond (Nat.ble 102 q) (cond (Nat.ble 105 q) (cond (Nat.ble 107 q) (cond (Nat.ble 108 q) ([]) ([])) (cond (Nat.ble 106 q) ([]) ([]))) (cond (Nat.ble 103 q) (cond (Nat.ble 104 q) ([]) ([])) ([]))) (cond (Nat.ble 98 q) (cond (Nat.ble 100 q) (cond (Nat.ble 101 q) ([]) ([])) (cond (Nat.ble 99 q) ([]) ([some 99, none, none, some 100, some 101, some 102, none, some 103, some 104, some 105, some 106, some 107, some 108]))) (cond (Nat.ble 96 q) (cond (Nat.ble 97 q) ([]) ([])) ([])))) (cond (Nat.ble 88 q) (cond (Nat.ble 91 q) (cond (Nat.ble 93 q) (cond (Nat.ble 94 q) ([]) ([])) (cond (Nat.ble 92 q) ([]) ([]))) (cond (Nat.ble 89 q) (cond (Nat.ble 90 q) ([]) ([])) ([]))) (cond (Nat.ble 84 q) (cond (Nat.ble 86 q) (cond (Nat.ble 87 q) ([some 88, none, none, some 89, some 90, some 91, none, some 92, some 93, some 94, some 95, some 96, some 97]) ([])) (cond (Nat.ble 85 q) ([]) ([]))) (cond (Nat.ble 82 q) (cond (Nat.ble 83 q) ([]) ([])) ([]))))) (cond (Nat.ble 67 q) (cond (Nat.ble 74 q) (cond (Nat.ble 77 q) (cond (Nat.ble 79 q) (cond (Nat.ble 80 q) ([]) ([])) (cond (Nat.ble 78 q) ([]) ([]))) (cond (Nat.ble 75 q) (cond (Nat.ble 76 q) ([some 77, none, none, some 78, some 79, some 80, none, some 81, some 82, some 83, some 84, some 85, some 86]) ([])) ([]))) (cond (Nat.ble 70 q) (cond (Nat.ble 72 q) (cond (Nat.ble 73 q) ([]) ([])) (cond (Nat.ble 71 q) ([]) ([]))) (cond (Nat.ble 68 q) (cond (Nat.ble 69 q) ([]) ([])) ([])))) (cond (Nat.ble 60 q) (cond (Nat.ble 63 q) (cond (Nat.ble 65 q) (cond (Nat.ble 66 q) ([]) ([some 66, none, none, some 67, some 68, some 69, none, some 70, some 71, some 72, some 73, some 74, some 75])) (cond (Nat.ble 64 q) ([]) ([]))) (cond (Nat.ble 61 q) (cond (Nat.ble 62 q) ([]) ([])) ([]))) (cond (Nat.ble 57 q) (cond (Nat.ble 58 q) (cond (Nat.ble 59 q) ([]) ([])) ([])) (cond (Nat.ble 55 q) (cond (Nat.ble 56 q) ([]) ([])) ([some 55, none, none, some 56, some 57, some 58, none, some 59, some 60, some 61, some 62, some 63, some 64])))))) (cond (Nat.ble 27 q) (cond (Nat.ble 40 q) (cond (Nat.ble 47 q) (cond (Nat.ble 50 q) (cond (Nat.ble 52 q) (cond (Nat.ble 53 q) ([]) ([])) (cond (Nat.ble 51 q) ([]) ([]))) (cond (Nat.ble 48 q) (cond (Nat.ble 49 q) ([]) ([])) ([]))) (cond (Nat.ble 43 q) (cond (Nat.ble 45 q) (cond (Nat.ble 46 q) ([]) ([])) (cond (Nat.ble 44 q) ([]) ([some 44, none, none, some 45, some 46, some 47, none, some 48, some 49, some 50, some 51, some 52, some 53]))) (cond (Nat.ble 41 q) (cond (Nat.ble 42 q) ([some 43, some 54, some 65, some 76, some 87, some 98, some 109, some 120, some 131, some 142]) ([some 42])) ([])))) (cond (Nat.ble 33 q) (cond (Nat.ble 36 q) (cond (Nat.ble 38 q) (cond (Nat.ble 39 q) ([]) ([])) (cond (Nat.ble 37 q) ([]) ([]))) (cond (Nat.ble 34 q) (cond (Nat.ble 35 q) ([]) ([])) ([]))) (cond (Nat.ble 30 q) (cond (Nat.ble 31 q) (cond (Nat.ble 32 q) ([]) ([])) ([some 31, none, none, some 32, some 33, some 34, none, some 35, some 36, some 37, some 38, some 39, some 40])) (cond (Nat.ble 28 q) (cond (Nat.ble 29 q) ([]) ([])) ([]))))) (cond (Nat.ble 13 q) (cond (Nat.ble 20 q) (cond (Nat.ble 23 q) (cond (Nat.ble 25 q) (cond (Nat.ble 26 q) ([]) ([])) (cond (Nat.ble 24 q) ([]) ([]))) (cond (Nat.ble 21 q) (cond (Nat.ble 22 q) ([]) ([])) ([]))) (cond (Nat.ble 16 q) (cond (Nat.ble 18 q) (cond (Nat.ble 19 q) ([some 20, none, none, some 21, some 22, some 23, none, some 24, some 25, some 26, some 27, some 28, some 29]) ([])) (cond (Nat.ble 17 q) ([]) ([]))) (cond (Nat.ble 14 q) (cond (Nat.ble 15 q) ([]) ([])) ([])))) (cond (Nat.ble 6 q) (cond (Nat.ble 9 q) (cond (Nat.ble 11 q) (cond (Nat.ble 12 q) ([]) ([])) (cond (Nat.ble 10 q) ([]) ([]))) (cond (Nat.ble 7 q) (cond (Nat.ble 8 q) ([some 9, none, none, some 10, some 11, some 12, none, some 13, some 14, some 15, some 16, some 17, some 18]) ([])) ([]))) (cond (Nat.ble 3 q) (cond (Nat.ble 4 q) (cond (Nat.ble 5 q) ([none, some 6, some 7]) ([])) ([some 4])) (cond (Nat.ble 1 q) (cond (Nat.ble 2 q) ([]) ([some 2])) ([some 1, some 3, some 5, some 8, some 19, some 30, some 41, some 153, some 171, some 185, some 191, some 198]))))))))
theorem kb_kd : ∀ q, q < 218 → kb q = kd q := by decide +kernel
def R0 (e q k : Nat) : Option Nat := cond (Nat.beq q 171 && Nat.beq k 1) (some e) ((rb q).getD k none)
def stLs : List Nat := [8, 19, 30, 43, 54, 65, 76, 87, 98, 109, 120, 131, 142, 157]
theorem kb_of {q : Nat} {p : Nat × Nat} (h : kb q = p) (hp : p.1 ≠ 9) : kd q = p ∧ q < NN := by
  by_cases hq : q < 218
  · exact ⟨(kb_kd q hq).symm.trans h, hq⟩
  · exfalso
    apply hp
    rw [← h]
    unfold kb
    rw [Nat.ble_eq_true_of_le (Nat.not_lt.mp hq)]
    rfl
theorem kb_st : ∀ q, q ∈ stLs → kb q = (0, 6) ∧ kb (q + 1) = (1, 4) ∧ (∀ d, 2 ≤ d → d < 5 → kb (q + d) = (1, 12)) ∧ (∀ d, 5 ≤ d → d < 11 → kb (q + d) = (1, 40)) ∧ rb q = [some (q + 1), none, none, some (q + 2), some (q + 3), some (q + 4), none, some (q + 5), some (q + 6), some (q + 7), some (q + 8), some (q + 9), some (q + 10)] ∧ ¬ q = 171 := by
  intro q h
  simp only [stLs, List.mem_cons, List.not_mem_nil, or_false] at h
  rcases h with rfl | rfl | rfl | rfl | rfl | rfl | rfl | rfl | rfl | rfl | rfl | rfl | rfl | rfl <;> refine ⟨by decide +kernel, by decide +kernel, ?_, ?_, by decide +kernel, by decide +kernel⟩ <;> intro d h1 h2
  all_goals (first
    | (rcases (show d = 2 ∨ d = 3 ∨ d = 4 by omega) with rfl | rfl | rfl <;> decide +kernel)
    | (rcases (show d = 5 ∨ d = 6 ∨ d = 7 ∨ d = 8 ∨ d = 9 ∨ d = 10 by omega) with rfl | rfl | rfl | rfl | rfl | rfl <;> decide +kernel))
/-! ===== the memory behind the making: ints at places, rows of State ===== -/
abbrev IM : Type := Nat → Int → Int
def ME (e : Nat) (I : IM) (J : IM) : Mem := (NN, fun q k => i32 (I q (k : Int)), R0 e, fun q k => i64 (J q (k : Int)))
def up (I : IM) (q : Nat) (k v : Int) : IM := fun q' k' => if q' = q ∧ k' = k then v else I q' k'
theorem up_self {I : IM} {q : Nat} {k v : Int} : up I q k v q k = v := by simp [up]
theorem up_ne {I : IM} {q q' : Nat} {k k' v : Int} (h : ¬ (q' = q ∧ k' = k)) : up I q k v q' k' = I q' k' := by simp [up, h]
theorem up_q {I : IM} {q q' : Nat} {k k' v : Int} (h : q' ≠ q) : up I q k v q' k' = I q' k' := by simp [up, h]
theorem up_qf {I : IM} {q q' : Nat} {k v : Int} (h : q' ≠ q) : up I q k v q' = I q' := by funext k'; simp [up, h]
theorem up_k {I : IM} {q q' : Nat} {k k' v : Int} (h : k' ≠ k) : up I q k v q' k' = I q' k' := by simp [up, h]
theorem up_at {I : IM} {q : Nat} {k k' v : Int} : up I q k v q k' = if k' = k then v else I q k' := by simp [up]
theorem wI_ME {e : Nat} {I J : IM} {q k : Nat} {v : Int} : wI (ME e I J) q k (i32 v) = ME e (up I q k v) J := by
  simp only [wI, ME]
  congr 2
  funext q' k'
  simp only [up, Int.natCast_inj]
  split <;> rfl
theorem wI_MEt {e : Nat} {I J : IM} {q : Nat} {k v : Int} (h : 0 ≤ k) : wI (ME e I J) q k.toNat (i32 v) = ME e (up I q k v) J := by
  rw [wI_ME, Int.toNat_of_nonneg h]
theorem wJ_MEt {e : Nat} {I J : IM} {q : Nat} {k v : Int} (h : 0 ≤ k) : wJ (ME e I J) q k.toNat (i64 v) = ME e I (up J q k v) := by
  simp only [wJ, ME]
  congr 3
  funext q' k'
  have : (k' = k.toNat) ↔ ((k' : Int) = k) := by omega
  simp only [up, this]
  split <;> rfl
theorem wR_ME {e e' : Nat} {I J : IM} : wR (ME e I J) 171 1 (some e') = ME e' I J := by
  simp only [wR, ME]
  congr 3
  funext q' k'
  by_cases h : q' = 171 ∧ k' = 1
  · rw [if_pos h]
    obtain ⟨rfl, rfl⟩ := h
    rfl
  · rw [if_neg h]
    have : (Nat.beq q' 171 && Nat.beq k' 1) = false := by
      cases hb : (Nat.beq q' 171 && Nat.beq k' 1)
      · rfl
      · exfalso
        have h3 := Bool.and_eq_true_iff.mp hb
        exact h ⟨Nat.eq_of_beq_eq_true h3.1, Nat.eq_of_beq_eq_true h3.2⟩
    unfold R0
    rw [this]
    rfl
theorem mI_ME {e : Nat} {I J : IM} {q k : Nat} : mI (ME e I J) q k = i32 (I q k) := rfl
theorem mI_MEt {e : Nat} {I J : IM} {q : Nat} {k : Int} (h : 0 ≤ k) : mI (ME e I J) q k.toNat = i32 (I q k) := by rw [mI_ME, Int.toNat_of_nonneg h]
theorem mJ_MEt {e : Nat} {I J : IM} {q : Nat} {k : Int} (h : 0 ≤ k) : mJ (ME e I J) q k.toNat = i64 (J q k) := by
  show i64 (J q (k.toNat : Int)) = _
  rw [Int.toNat_of_nonneg h]
theorem mR_ME {e : Nat} {I J : IM} {q k : Nat} : mR (ME e I J) q k = R0 e q k := rfl
theorem R0_st {e q k r : Nat} (hq : q ∈ stLs) (h : ([some (q + 1), none, none, some (q + 2), some (q + 3), some (q + 4), none, some (q + 5), some (q + 6), some (q + 7), some (q + 8), some (q + 9), some (q + 10)] : List (Option Nat)).getD k none = some r) : R0 e q k = some r := by
  unfold R0
  have h1 := (kb_st q hq).2.2.2.2.2
  have : (Nat.beq q 171 && Nat.beq k 1) = false := by simp [h1]
  rw [this, (kb_st q hq).2.2.2.2.1]
  exact h
theorem z01 {v : Int} (hv : v = 0 ∨ v = 1) : i32 v = 0 ∨ i32 v = 1 := hv.elim (fun h => Or.inl (by rw [h]; rfl)) (fun h => Or.inr (by rw [h]; rfl))
/-! ===== rules: one a piece ===== -/
section Rules40
variable {e : Nat} {I J : IM} {Q : Post} {ci k q r t n : Nat} {a b v : Int}
theorem x_gR {f : Nat → Sem} (h1 : kb q = (0, ci)) (h2 : R0 e q k = some r) (h : f r (ME e I J) Q) : gR ci k q f (ME e I J) Q :=
  ⟨(kb_of h1 (by simp)).1, (kb_of h1 (by simp)).2, r, h2, h⟩
theorem x_gRs {f : Nat → Sem} (hq : q ∈ stLs) (h2 : ([some (q + 1), none, none, some (q + 2), some (q + 3), some (q + 4), none, some (q + 5), some (q + 6), some (q + 7), some (q + 8), some (q + 9), some (q + 10)] : List (Option Nat)).getD k none = some r) (h : f r (ME e I J) Q) : gR 6 k q f (ME e I J) Q :=
  x_gR (kb_st q hq).1 (R0_st hq h2) h
theorem x_gI {f : Int32 → Sem} (h1 : kb q = (0, ci)) (h : f (i32 (I q k)) (ME e I J) Q) : gI ci k q f (ME e I J) Q :=
  ⟨(kb_of h1 (by simp)).1, (kb_of h1 (by simp)).2, h⟩
theorem x_gIs {f : Int32 → Sem} (hq : q ∈ stLs) (h : f (i32 (I q k)) (ME e I J) Q) : gI 6 k q f (ME e I J) Q := x_gI (kb_st q hq).1 h
theorem x_pI {f : Sem} (h1 : kb q = (0, ci)) (h : f (ME e (up I q k v) J) Q) : pI ci k q (i32 v) f (ME e I J) Q :=
  ⟨(kb_of h1 (by simp)).1, (kb_of h1 (by simp)).2, by rw [wI_ME]; exact h⟩
theorem x_pIs {f : Sem} (hq : q ∈ stLs) (h : f (ME e (up I q k v) J) Q) : pI 6 k q (i32 v) f (ME e I J) Q := x_pI (kb_st q hq).1 h
theorem x_pZ {f : Sem} (h1 : kb q = (0, ci)) (hv : v = 0 ∨ v = 1) (h : f (ME e (up I q k v) J) Q) : pZ ci k q (i32 v) f (ME e I J) Q :=
  ⟨(kb_of h1 (by simp)).1, (kb_of h1 (by simp)).2, z01 hv, by rw [wI_ME]; exact h⟩
theorem x_pZs {f : Sem} (hq : q ∈ stLs) (hv : v = 0 ∨ v = 1) (h : f (ME e (up I q k v) J) Q) : pZ 6 k q (i32 v) f (ME e I J) Q := x_pZ (kb_st q hq).1 hv h
theorem x_pR {f : Sem} (h : f (ME r I J) Q) : pR 0 1 171 (some r) f (ME e I J) Q :=
  ⟨(kb_of (q := 171) (p := (0, 0)) rfl (by simp)).1, (kb_of (q := 171) (p := (0, 0)) rfl (by simp)).2, by rw [wR_ME]; exact h⟩
theorem x_ob {f : Sem} (h1 : kb q = (0, ci)) (h : f (ME e I J) Q) : ob ci q f (ME e I J) Q := ⟨(kb_of h1 (by simp)).1, (kb_of h1 (by simp)).2, h⟩
theorem x_obs {f : Sem} (hq : q ∈ stLs) (h : f (ME e I J) Q) : ob 6 q f (ME e I J) Q := x_ob (kb_st q hq).1 h
theorem x_aI {f : Int32 → Sem} (h1 : kb q = (1, n)) (h2 : 0 ≤ a) (h3 : a < n) (h4 : a < 2147483648) (h : f (i32 (I q a)) (ME e I J) Q) : aI q (i32 a) f (ME e I J) Q := by
  have hk := kb_of h1 (by simp)
  refine ⟨by rw [hk.1]; exact i32_in h2 h3 h4, Or.inl ⟨by rw [hk.1], hk.2, ?_⟩⟩
  rw [i32_clamp h2 h4, mI_MEt h2]
  exact h
theorem x_sA {f : Sem} (h1 : kb q = (1, n)) (h2 : 0 ≤ a) (h3 : a < n) (h4 : a < 2147483648) (h : f (ME e (up I q a v) J) Q) : sA q (i32 a) (i32 v) f (ME e I J) Q := by
  have hk := kb_of h1 (by simp)
  refine ⟨by rw [hk.1], hk.2, by rw [hk.1]; exact i32_in h2 h3 h4, ?_⟩
  rw [i32_clamp h2 h4, wI_MEt h2]
  exact h
theorem x_aB {f : Int32 → Sem} (h1 : kb q = (t, n)) (ht : t = 2 ∨ t = 3) (h2 : 0 ≤ a) (h3 : a < n) (h4 : a < 2147483648) (h : f (i32 (I q a)) (ME e I J) Q) : aB q (i32 a) f (ME e I J) Q := by
  have hk := kb_of h1 (by rcases ht with rfl | rfl <;> simp)
  refine ⟨by rw [hk.1]; exact ht, hk.2, by rw [hk.1]; exact i32_in h2 h3 h4, ?_⟩
  rw [i32_clamp h2 h4, mI_MEt h2]
  exact h
theorem nar_bool : vp_nar .boolean (i32 0) = i32 0 ∧ vp_nar .boolean (i32 1) = i32 1 := ⟨by decide +kernel, by decide +kernel⟩
theorem x_sZ {f : Sem} (h1 : kb q = (3, n)) (h2 : 0 ≤ a) (h3 : a < n) (h4 : a < 2147483648) (hv : v = 0 ∨ v = 1) (h : f (ME e (up I q a v) J) Q) : sB q (i32 a) (i32 v) f (ME e I J) Q := by
  have hk := kb_of h1 (by simp)
  refine ⟨hk.2, by rw [hk.1]; exact i32_in h2 h3 h4, Or.inr ⟨by rw [hk.1], ?_⟩⟩
  have : vp_nar .boolean (i32 v) = i32 v := hv.elim (fun h => by rw [h]; exact nar_bool.1) (fun h => by rw [h]; exact nar_bool.2)
  rw [i32_clamp h2 h4, this, wI_MEt h2]
  exact h
theorem x_sB {f : Sem} (h1 : kb q = (2, n)) (h2 : 0 ≤ a) (h3 : a < n) (h4 : a < 2147483648) (hv : vp_nar .byte (i32 b) = i32 v) (h : f (ME e (up I q a v) J) Q) : sB q (i32 a) (i32 b) f (ME e I J) Q := by
  have hk := kb_of h1 (by simp)
  refine ⟨hk.2, by rw [hk.1]; exact i32_in h2 h3 h4, Or.inl ⟨by rw [hk.1], ?_⟩⟩
  rw [i32_clamp h2 h4, hv, wI_MEt h2]
  exact h
theorem x_aJ {f : Int64 → Sem} (h1 : kb q = (4, n)) (h2 : 0 ≤ a) (h3 : a < n) (h4 : a < 2147483648) (h : f (i64 (J q a)) (ME e I J) Q) : aJ q (i32 a) f (ME e I J) Q := by
  have hk := kb_of h1 (by simp)
  refine ⟨by rw [hk.1], hk.2, by rw [hk.1]; exact i32_in h2 h3 h4, ?_⟩
  rw [i32_clamp h2 h4, mJ_MEt h2]
  exact h
theorem x_sJ {f : Sem} (h1 : kb q = (4, n)) (h2 : 0 ≤ a) (h3 : a < n) (h4 : a < 2147483648) (h : f (ME e I (up J q a v)) Q) : sJ q (i32 a) (i64 v) f (ME e I J) Q := by
  have hk := kb_of h1 (by simp)
  refine ⟨by rw [hk.1], hk.2, by rw [hk.1]; exact i32_in h2 h3 h4, ?_⟩
  rw [i32_clamp h2 h4, wJ_MEt h2]
  exact h
theorem x_aL {f : Int32 → Sem} (h1 : kb q = (t, n)) (ht : t = 1 ∨ t = 5) (h : f (i32 (n : Int)) (ME e I J) Q) : aL q f (ME e I J) Q := by
  have hk := kb_of h1 (by rcases ht with rfl | rfl <;> simp)
  refine ⟨Or.inl ⟨by rw [hk.1]; exact ht, hk.2⟩, ?_⟩
  rw [hk.1]
  show f (Int32.ofNat n) _ _
  rw [← Int32.ofInt_eq_ofNat]
  exact h
theorem x_aR {f : Nat → Sem} (h1 : kb q = (5, n)) (h2 : 0 ≤ a) (h3 : a < n) (h4 : a < 2147483648) (h5 : R0 e q a.toNat = some r) (h : f r (ME e I J) Q) : aR q (i32 a) f (ME e I J) Q := by
  have hk := kb_of h1 (by simp)
  refine ⟨by rw [hk.1], hk.2, by rw [hk.1]; exact i32_in h2 h3 h4, r, ?_, h⟩
  rw [i32_clamp h2 h4]
  exact h5
theorem x_lI {w : Int32} {f : Int32 → Sem} {μ : Mem} (h : f w μ Q) : lI w f μ Q := h
theorem x_lJ {w : Int64} {f : Int64 → Sem} {μ : Mem} (h : f w μ Q) : lJ w f μ Q := h
theorem x_nz {μ : Mem} {f : Sem} (h0 : ¬ b = 0) (h1 : -2147483648 ≤ b) (h2 : b < 2147483648) (h : f μ Q) : nz (i32 b) f μ Q :=
  ⟨by rw [show (0 : Int32) = i32 0 from rfl, i32_eq ⟨h1, h2⟩ (by omega)]; exact h0, h⟩
theorem x_nzl {μ : Mem} {f : Sem} (h0 : ¬ b = 0) (h1 : -9223372036854775808 ≤ b) (h2 : b < 9223372036854775808) (h : f μ Q) : nzl (i64 b) f μ Q :=
  ⟨by rw [show (0 : Int64) = i64 0 from rfl, i64_eq ⟨h1, h2⟩ (by omega)]; exact h0, h⟩
theorem x_br {c : Prop} {f g : Sem} {μ : Mem} (h1 : c → f μ Q) (h2 : ¬ c → g μ Q) : br c f g μ Q := ⟨h1, h2⟩
theorem x_le {f g : Sem} {μ : Mem} (ha : -2147483648 ≤ a ∧ a < 2147483648) (hb : -2147483648 ≤ b ∧ b < 2147483648) (h1 : a ≤ b → f μ Q) (h2 : b < a → g μ Q) : br (i32 a ≤ i32 b) f g μ Q :=
  ⟨fun h => h1 ((i32_le ha hb).mp h), fun h => h2 (Int.not_le.mp fun h' => h ((i32_le ha hb).mpr h'))⟩
theorem x_lt {f g : Sem} {μ : Mem} (ha : -2147483648 ≤ a ∧ a < 2147483648) (hb : -2147483648 ≤ b ∧ b < 2147483648) (h1 : a < b → f μ Q) (h2 : b ≤ a → g μ Q) : br (i32 a < i32 b) f g μ Q :=
  ⟨fun h => h1 ((i32_lt ha hb).mp h), fun h => h2 (Int.not_lt.mp fun h' => h ((i32_lt ha hb).mpr h'))⟩
theorem x_eq {f g : Sem} {μ : Mem} (ha : -2147483648 ≤ a ∧ a < 2147483648) (hb : -2147483648 ≤ b ∧ b < 2147483648) (h1 : a = b → f μ Q) (h2 : ¬ a = b → g μ Q) : br (i32 a = i32 b) f g μ Q :=
  ⟨fun h => h1 ((i32_eq ha hb).mp h), fun h => h2 fun h' => h ((i32_eq ha hb).mpr h')⟩
theorem x_brT {f g : Sem} {μ : Mem} (h : f μ Q) : br True f g μ Q := ⟨fun _ => h, fun h' => absurd trivial h'⟩
theorem x_brF {f g : Sem} {μ : Mem} (h : g μ Q) : br False f g μ Q := ⟨fun h' => h'.elim, fun _ => h⟩
theorem x_rI {μ : Mem} {w : Int32} (h : Q (.inl (some (.int w))) μ) : rI w μ Q := h
theorem x_rJ {μ : Mem} {w : Int64} (h : Q (.inl (some (.long w))) μ) : rJ w μ Q := h
theorem x_rV {μ : Mem} (h : Q (.inl none) μ) : rV μ Q := h
theorem x_rZ {μ : Mem} (hv : v = 0 ∨ v = 1) (h : Q (.inl (some (.int (i32 v)))) μ) : rZ (i32 v) μ Q := ⟨z01 hv, h⟩
theorem x_rO {μ : Mem} {w : Option Nat} (h : Q (.inl (some (va_rf w))) μ) : rO w μ Q := h
theorem x_thr {E : Nat} (h : Q (.inr E) (ME e I J)) : thr E (ME e I J) Q := ⟨Nat.le_refl _, h⟩
theorem x_cI {S : ST} {as : List Value} {f : Int32 → Sem} {μ : Mem} (h : S as μ (fun r μ1 => match r with
  | .inl (some (.int v)) => f v μ1 Q
  | .inr E => Q (.inr E) μ1
  | _ => False)) : cI S as f μ Q := h
theorem x_cJ {S : ST} {as : List Value} {f : Int64 → Sem} {μ : Mem} (h : S as μ (fun r μ1 => match r with
  | .inl (some (.long v)) => f v μ1 Q
  | .inr E => Q (.inr E) μ1
  | _ => False)) : cJ S as f μ Q := h
theorem x_cV {S : ST} {as : List Value} {f : Sem} {μ : Mem} (h : S as μ (fun r μ1 => match r with
  | .inl none => f μ1 Q
  | .inr E => Q (.inr E) μ1
  | _ => False)) : cV S as f μ Q := h
theorem x_cO {S : ST} {as : List Value} {f : Nat → Sem} {g : Sem} {μ : Mem} (h : S as μ (fun r μ1 => match r with
  | .inl (some (.ref v)) => f v μ1 Q
  | .inl (some .null) => g μ1 Q
  | .inr E => Q (.inr E) μ1
  | _ => False)) : cO S as f g μ Q := h
/-- a method's own start -/
theorem x_in {nL : Nat} {b : JT → JT} {av : List Value} {μ : Mem} (h0 : (lg_sl av).length ≤ nL) (h : b (fx b) 0 av μ Q) : mk nL b av μ Q := ⟨h0, fx_in h⟩
theorem x_J {J0 : JT} {L : Nat} {av av' : List Value} {μ μ' : Mem} (ha : av = av') (hm : μ = μ') (h : J0 L av' μ' Q) : J0 L av μ Q := by subst ha; subst hm; exact h
/-- a loop, by what holds at its head -/
theorem x_for {b : JT → JT} {L : Nat} (N : Nat) (inv : Nat → List Value → Mem → Prop)
    (step : ∀ i a μ, i < N → inv i a μ → (∀ a' μ', inv (i + 1) a' μ' → fx b L a' μ' Q) → b (fx b) L a μ Q)
    (fin : ∀ a μ, inv N a μ → b (fx b) L a μ Q) {i : Nat} {av : List Value} {μ : Mem} (hi : i ≤ N) (h : inv i av μ) : fx b L av μ Q := by
  obtain ⟨d, hd⟩ : ∃ d, i + d = N := ⟨N - i, by omega⟩
  induction d generalizing i av μ with
  | zero => exact fx_in (fin av μ (by rw [← hd]; exact h))
  | succ d ih => exact fx_in (step i av μ (by omega) h (fun a' μ' h' => ih (i := i + 1) (by omega) h' (by omega)))
/-- a loop by a measure -/
theorem x_while {b : JT → JT} {L : Nat} (inv : Nat → List Value → Mem → Prop)
    (step : ∀ n a μ, inv n a μ → (∀ m a' μ', m < n → inv m a' μ' → fx b L a' μ' Q) → b (fx b) L a μ Q)
    {n : Nat} {av : List Value} {μ : Mem} (h : inv n av μ) : fx b L av μ Q := by
  induction n using Nat.strongRecOn generalizing av μ with
  | ind n ih => exact fx_in (step n av μ h (fun m a' μ' hm h' => ih m hm h'))
/-- a loop whose state is told by its count -/
theorem x_forD {b : JT → JT} {L : Nat} (N : Nat) (A : Nat → List Value) (M : Nat → Mem)
    (step : ∀ i, i < N → fx b L (A (i + 1)) (M (i + 1)) Q → b (fx b) L (A i) (M i) Q)
    (fin : b (fx b) L (A N) (M N) Q) {i : Nat} {av : List Value} {μ : Mem} (hi : i ≤ N) (ha : av = A i) (hm : μ = M i) : fx b L av μ Q := by
  refine x_for N (fun i a μ => a = A i ∧ μ = M i) ?_ ?_ hi ⟨ha, hm⟩
  · rintro i a μ hi ⟨rfl, rfl⟩ hJ
    exact step i hi (hJ _ _ ⟨rfl, rfl⟩)
  · rintro a μ ⟨rfl, rfl⟩
    exact fin
end Rules40
