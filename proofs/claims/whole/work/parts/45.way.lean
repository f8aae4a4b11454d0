/-! ===== pure layer: how many cells a way has ===== -/
def M1 : Nat := 6148914691236517205
def M3 : Nat := 3689348814741910323
def M15 : Nat := 1085102592571150095
set_option maxHeartbeats 100000 in
theorem and_cut {a y m M : Nat} (ha : a < 256) (hm : m < 256) : (a + 256 * y) &&& (m + 256 * M) = (a &&& m) + 256 * (y &&& M) := by
  have e1 : ((a + 256 * y) &&& (m + 256 * M)) % 2 ^ 8 = a &&& m := by
    rw [Nat.and_mod_two_pow]
    congr 1 <;> omega
  have e2 : ((a + 256 * y) &&& (m + 256 * M)) / 2 ^ 8 = y &&& M := by
    rw [Nat.and_div_two_pow]
    congr 1 <;> omega
  omega
/-- bytes, the low one first -/
def by8 (b0 b1 b2 b3 b4 b5 b6 b7 : Nat) : Nat := b0 + 256 * (b1 + 256 * (b2 + 256 * (b3 + 256 * (b4 + 256 * (b5 + 256 * (b6 + 256 * b7))))))
theorem s1_b : ∀ a, a < 256 → ∀ y, y < 2 → (a / 2 + 128 * y) &&& 85 = (a / 2) &&& 85 ∧ (a / 2) &&& 85 ≤ a := by decide +kernel
theorem s1_cut {a y M : Nat} (ha : a < 256) : ((a + 256 * y) / 2) &&& (85 + 256 * M) = ((a / 2) &&& 85) + 256 * ((y / 2) &&& M) := by
  have e : (a + 256 * y) / 2 = (a / 2 + 128 * (y % 2)) + 256 * (y / 2) := by omega
  rw [e, and_cut (by omega) (by omega), (s1_b a ha (y % 2) (by omega)).1]
theorem s2_b : ∀ a, a < 256 → ∀ y, y < 4 → (a / 4 + 64 * y) &&& 51 = (a / 4) &&& 51 := by decide +kernel
theorem s2_cut {a y M : Nat} (ha : a < 256) : ((a + 256 * y) / 4) &&& (51 + 256 * M) = ((a / 4) &&& 51) + 256 * ((y / 4) &&& M) := by
  have e : (a + 256 * y) / 4 = (a / 4 + 64 * (y % 4)) + 256 * (y / 4) := by omega
  rw [e, and_cut (by omega) (by omega), s2_b a ha (y % 4) (by omega)]
def t1 (a : Nat) : Nat := a - ((a / 2) &&& 85)
def t2 (a : Nat) : Nat := (a &&& 51) + ((a / 4) &&& 51)
def t3 (a : Nat) : Nat := a % 16 + a / 16
theorem t_all : ∀ a, a < 256 → t1 a < 256 ∧ t2 (t1 a) < 256 ∧ t2 (t1 a) % 16 ≤ 4 ∧ t2 (t1 a) / 16 ≤ 4 := by decide +kernel
/-- the bits of a byte -/
def pc8 (a : Nat) : Nat := a % 2 + a / 2 % 2 + a / 4 % 2 + a / 8 % 2 + a / 16 % 2 + a / 32 % 2 + a / 64 % 2 + a / 128 % 2
theorem t_pc : ∀ a, a < 256 → t3 (t2 (t1 a)) = pc8 a ∧ pc8 a ≤ 8 := by decide +kernel
theorem sub_cut {a p y q : Nat} (h1 : p ≤ a) (h2 : q ≤ y) : (a + 256 * y) - (p + 256 * q) = (a - p) + 256 * (y - q) := by omega
theorem M1_eq : M1 = 85 + 256 * (85 + 256 * (85 + 256 * (85 + 256 * (85 + 256 * (85 + 256 * (85 + 256 * 85)))))) := by decide
theorem M3_eq : M3 = 51 + 256 * (51 + 256 * (51 + 256 * (51 + 256 * (51 + 256 * (51 + 256 * (51 + 256 * 51)))))) := by decide
theorem M15_eq : M15 = 15 + 256 * (15 + 256 * (15 + 256 * (15 + 256 * (15 + 256 * (15 + 256 * (15 + 256 * 15)))))) := by decide
set_option maxHeartbeats 100000 in
theorem s1_all {b0 b1 b2 b3 b4 b5 b6 b7 : Nat} (h0 : b0 < 256) (h1 : b1 < 256) (h2 : b2 < 256) (h3 : b3 < 256) (h4 : b4 < 256) (h5 : b5 < 256) (h6 : b6 < 256) (h7 : b7 < 256) : (by8 b0 b1 b2 b3 b4 b5 b6 b7 / 2) &&& M1 ≤ by8 b0 b1 b2 b3 b4 b5 b6 b7 ∧ by8 b0 b1 b2 b3 b4 b5 b6 b7 - ((by8 b0 b1 b2 b3 b4 b5 b6 b7 / 2) &&& M1) = by8 (t1 b0) (t1 b1) (t1 b2) (t1 b3) (t1 b4) (t1 b5) (t1 b6) (t1 b7) := by
  unfold by8 t1
  rw [M1_eq, s1_cut h0, s1_cut h1, s1_cut h2, s1_cut h3, s1_cut h4, s1_cut h5, s1_cut h6]
  have le : ∀ {a p y q : Nat}, p ≤ a → q ≤ y → p + 256 * q ≤ a + 256 * y := fun h1 h2 => by omega
  have a0 := (s1_b b0 h0 0 (by omega)).2
  have a1 := (s1_b b1 h1 0 (by omega)).2
  have a2 := (s1_b b2 h2 0 (by omega)).2
  have a3 := (s1_b b3 h3 0 (by omega)).2
  have a4 := (s1_b b4 h4 0 (by omega)).2
  have a5 := (s1_b b5 h5 0 (by omega)).2
  have a6 := (s1_b b6 h6 0 (by omega)).2
  have a7 := (s1_b b7 h7 0 (by omega)).2
  have l6 := le a6 a7
  have l5 := le a5 l6
  have l4 := le a4 l5
  have l3 := le a3 l4
  have l2 := le a2 l3
  have l1 := le a1 l2
  refine ⟨le a0 l1, ?_⟩
  rw [sub_cut a0 l1, sub_cut a1 l2, sub_cut a2 l3, sub_cut a3 l4, sub_cut a4 l5, sub_cut a5 l6, sub_cut a6 a7]
set_option maxHeartbeats 100000 in
theorem s2_all {b0 b1 b2 b3 b4 b5 b6 b7 : Nat} (h0 : b0 < 256) (h1 : b1 < 256) (h2 : b2 < 256) (h3 : b3 < 256) (h4 : b4 < 256) (h5 : b5 < 256) (h6 : b6 < 256) (h7 : b7 < 256) : (by8 b0 b1 b2 b3 b4 b5 b6 b7 &&& M3) + ((by8 b0 b1 b2 b3 b4 b5 b6 b7 / 4) &&& M3) = by8 (t2 b0) (t2 b1) (t2 b2) (t2 b3) (t2 b4) (t2 b5) (t2 b6) (t2 b7) := by
  unfold by8
  rw [M3_eq, s2_cut h0, s2_cut h1, s2_cut h2, s2_cut h3, s2_cut h4, s2_cut h5, s2_cut h6, and_cut h0 (by omega), and_cut h1 (by omega), and_cut h2 (by omega), and_cut h3 (by omega), and_cut h4 (by omega), and_cut h5 (by omega), and_cut h6 (by omega)]
  unfold t2
  have ad : ∀ a p y q : Nat, (a + 256 * y) + (p + 256 * q) = (a + p) + 256 * (y + q) := fun a p y q => by omega
  rw [ad, ad, ad, ad, ad, ad, ad]
theorem and15 {a : Nat} : a &&& 15 = a % 16 := Nat.and_two_pow_sub_one_eq_mod a 4
set_option maxHeartbeats 100000 in
theorem s3_cut {a y M : Nat} (ha : a < 256) (h1 : a % 16 ≤ 4) (h2 : a / 16 ≤ 4) (hy : y % 16 ≤ 4) : ((a + 256 * y) + (a + 256 * y) / 16) &&& (15 + 256 * M) = t3 a + 256 * ((y + y / 16) &&& M) := by
  have e : (a + 256 * y) + (a + 256 * y) / 16 = (a + a / 16 + 16 * (y % 16)) + 256 * (y + y / 16) := by omega
  rw [e, and_cut (by omega) (by omega), and15]
  unfold t3
  congr 1
  omega
set_option maxHeartbeats 100000 in
theorem s3_all {b0 b1 b2 b3 b4 b5 b6 b7 : Nat} (h0 : b0 < 256 ∧ b0 % 16 ≤ 4 ∧ b0 / 16 ≤ 4) (h1 : b1 < 256 ∧ b1 % 16 ≤ 4 ∧ b1 / 16 ≤ 4) (h2 : b2 < 256 ∧ b2 % 16 ≤ 4 ∧ b2 / 16 ≤ 4) (h3 : b3 < 256 ∧ b3 % 16 ≤ 4 ∧ b3 / 16 ≤ 4) (h4 : b4 < 256 ∧ b4 % 16 ≤ 4 ∧ b4 / 16 ≤ 4) (h5 : b5 < 256 ∧ b5 % 16 ≤ 4 ∧ b5 / 16 ≤ 4) (h6 : b6 < 256 ∧ b6 % 16 ≤ 4 ∧ b6 / 16 ≤ 4) (h7 : b7 < 256 ∧ b7 % 16 ≤ 4 ∧ b7 / 16 ≤ 4) : (by8 b0 b1 b2 b3 b4 b5 b6 b7 + by8 b0 b1 b2 b3 b4 b5 b6 b7 / 16) &&& M15 = by8 (t3 b0) (t3 b1) (t3 b2) (t3 b3) (t3 b4) (t3 b5) (t3 b6) (t3 b7) := by
  have lo : ∀ a y : Nat, a % 16 ≤ 4 → (a + 256 * y) % 16 ≤ 4 := fun a y h => by omega
  unfold by8
  rw [M15_eq, s3_cut h0.1 h0.2.1 h0.2.2 (lo _ _ h1.2.1), s3_cut h1.1 h1.2.1 h1.2.2 (lo _ _ h2.2.1), s3_cut h2.1 h2.2.1 h2.2.2 (lo _ _ h3.2.1), s3_cut h3.1 h3.2.1 h3.2.2 (lo _ _ h4.2.1), s3_cut h4.1 h4.2.1 h4.2.2 (lo _ _ h5.2.1), s3_cut h5.1 h5.2.1 h5.2.2 (lo _ _ h6.2.1), s3_cut h6.1 h6.2.1 h6.2.2 h7.2.1]
  have e7 : (b7 + b7 / 16) &&& 15 = t3 b7 := by
    rw [and15]
    unfold t3
    omega
  rw [e7]
set_option maxHeartbeats 100000 in
theorem by_div {a0 a1 a2 a3 a4 a5 a6 a7 : Nat} (h : a0 < 256) : by8 a0 a1 a2 a3 a4 a5 a6 a7 / 256 = by8 a1 a2 a3 a4 a5 a6 a7 0 := by
  unfold by8
  rw [Nat.mul_zero, Nat.add_zero]
  generalize a1 + 256 * (a2 + 256 * (a3 + 256 * (a4 + 256 * (a5 + 256 * (a6 + 256 * a7))))) = Y
  omega
set_option maxHeartbeats 100000 in
theorem by_add {a0 a1 a2 a3 a4 a5 a6 a7 c0 c1 c2 c3 c4 c5 c6 c7 : Nat} : by8 a0 a1 a2 a3 a4 a5 a6 a7 + by8 c0 c1 c2 c3 c4 c5 c6 c7 = by8 (a0 + c0) (a1 + c1) (a2 + c2) (a3 + c3) (a4 + c4) (a5 + c5) (a6 + c6) (a7 + c7) := by
  unfold by8
  have ad : ∀ a p y q : Nat, (a + 256 * y) + (p + 256 * q) = (a + p) + 256 * (y + q) := fun a p y q => by omega
  rw [ad, ad, ad, ad, ad, ad, ad]
set_option maxHeartbeats 100000 in
theorem by_mod {a0 a1 a2 a3 a4 a5 a6 a7 : Nat} (h : a0 < 128) : by8 a0 a1 a2 a3 a4 a5 a6 a7 % 128 = a0 := by
  unfold by8
  generalize a1 + 256 * (a2 + 256 * (a3 + 256 * (a4 + 256 * (a5 + 256 * (a6 + 256 * a7))))) = Y
  omega
set_option maxHeartbeats 100000 in
theorem by_lt {a0 a1 a2 a3 a4 a5 a6 a7 : Nat} (h0 : a0 < 256) (h1 : a1 < 256) (h2 : a2 < 256) (h3 : a3 < 256) (h4 : a4 < 256) (h5 : a5 < 256) (h6 : a6 < 256) (h7 : a7 < 256) : by8 a0 a1 a2 a3 a4 a5 a6 a7 < 2 ^ 64 := by
  unfold by8
  have up : ∀ {a y N : Nat}, a < 256 → y < N → a + 256 * y < 256 * N := fun h1 h2 => by omega
  exact up h0 (up h1 (up h2 (up h3 (up h4 (up h5 (up h6 h7))))))
set_option maxHeartbeats 100000 in
theorem fin_sum {p0 p1 p2 p3 p4 p5 p6 p7 : Nat} (h0 : p0 ≤ 8) (h1 : p1 ≤ 8) (h2 : p2 ≤ 8) (h3 : p3 ≤ 8) (h4 : p4 ≤ 8) (h5 : p5 ≤ 8) (h6 : p6 ≤ 8) (h7 : p7 ≤ 8) (x y z u : Nat) (ex : x = by8 p0 p1 p2 p3 p4 p5 p6 p7) (ey : y = x + x / 2 ^ 8) (ez : z = y + y / 2 ^ 16) (eu : u = z + z / 2 ^ 32) : u < 2 ^ 64 ∧ z < 2 ^ 64 ∧ y < 2 ^ 64 ∧ x < 2 ^ 64 ∧ u % 128 = p0 + p1 + p2 + p3 + p4 + p5 + p6 + p7 := by
  have d16 : ∀ n : Nat, n / 2 ^ 16 = n / 256 / 256 := fun n => by rw [Nat.div_div_eq_div_mul]
  have d32 : ∀ n : Nat, n / 2 ^ 32 = n / 256 / 256 / 256 / 256 := fun n => by rw [Nat.div_div_eq_div_mul, Nat.div_div_eq_div_mul, Nat.div_div_eq_div_mul]
  have y1 : y = by8 (p0 + p1) (p1 + p2) (p2 + p3) (p3 + p4) (p4 + p5) (p5 + p6) (p6 + p7) (p7 + 0) := by
    rw [ey, ex, show (2 : Nat) ^ 8 = 256 from rfl, by_div (by omega), by_add]
  have z1 : z = by8 (p0 + p1 + (p2 + p3)) (p1 + p2 + (p3 + p4)) (p2 + p3 + (p4 + p5)) (p3 + p4 + (p5 + p6)) (p4 + p5 + (p6 + p7)) (p5 + p6 + (p7 + 0)) (p6 + p7 + 0) (p7 + 0 + 0) := by
    rw [ez, y1, d16, by_div (by omega), by_div (by omega), by_add]
  have u1 : u = by8 (p0 + p1 + (p2 + p3) + (p4 + p5 + (p6 + p7))) (p1 + p2 + (p3 + p4) + (p5 + p6 + (p7 + 0))) (p2 + p3 + (p4 + p5) + (p6 + p7 + 0)) (p3 + p4 + (p5 + p6) + (p7 + 0 + 0)) (p4 + p5 + (p6 + p7) + 0) (p5 + p6 + (p7 + 0) + 0) (p6 + p7 + 0 + 0) (p7 + 0 + 0 + 0) := by
    rw [eu, z1, d32, by_div (by omega), by_div (by omega), by_div (by omega), by_div (by omega), by_add]
  refine ⟨?_, ?_, ?_, ?_, ?_⟩
  · rw [u1]
    exact by_lt (by omega) (by omega) (by omega) (by omega) (by omega) (by omega) (by omega) (by omega)
  · rw [z1]
    exact by_lt (by omega) (by omega) (by omega) (by omega) (by omega) (by omega) (by omega) (by omega)
  · rw [y1]
    exact by_lt (by omega) (by omega) (by omega) (by omega) (by omega) (by omega) (by omega) (by omega)
  · rw [ex]
    exact by_lt (by omega) (by omega) (by omega) (by omega) (by omega) (by omega) (by omega) (by omega)
  · rw [u1, by_mod (by omega)]
    omega
