/-! ===== lN n to 2^64: shifts, and, or, masks, one bit ===== -/
theorem wb_tb (n : Nat) : (lN n).toBitVec = BitVec.ofNat 64 n := rfl
theorem wb_inj {a b : Int64} (h : a.toBitVec = b.toBitVec) : a = b := Int64.toBitVec_inj.mp h
theorem wb_tn {n : Nat} (h : n < 2 ^ 64) : (lN n).toBitVec.toNat = n := by rw [wb_tb, BitVec.toNat_ofNat, Nat.mod_eq_of_lt h]
theorem wb_of (x : Int64) : ∃ n, n < 2 ^ 64 ∧ x = lN n := ⟨x.toBitVec.toNat, x.toBitVec.isLt, wb_inj (by rw [wb_tb]; simp)⟩
theorem wb_of32 (x : Int32) : ∃ n, n < 2 ^ 32 ∧ x = nI n := ⟨x.toBitVec.toNat, x.toBitVec.isLt, Int32.toBitVec_inj.mp (by show _ = BitVec.ofNat 32 _; simp)⟩
theorem wb_c : ∀ k, k < 64 → ((nI k).toInt64 &&& 63) = lN k := by decide +kernel
theorem wb_cu : ∀ k, k < 64 → ((nI k).toInt64.toUInt64 &&& Int64.toUInt64 63) = UInt64.ofNat k := by decide +kernel
theorem wb_sm : ∀ k, k < 64 → (BitVec.ofNat 64 k).smod 64 = BitVec.ofNat 64 k := by decide +kernel
theorem wb_pw {a b : Nat} (h : a ≤ b) : 2 ^ b = 2 ^ a * 2 ^ (b - a) := by rw [← Nat.pow_add]; congr 1; omega
theorem wb_lt2 {a b : Nat} (h : a < b) : 2 ^ a < 2 ^ b := Nat.pow_lt_pow_right (by decide) h
theorem wb_mod (n : Nat) : lN n = lN (n % 2 ^ 64) := wb_inj (by rw [wb_tb, wb_tb]; apply BitVec.eq_of_toNat_eq; rw [BitVec.toNat_ofNat, BitVec.toNat_ofNat, Nat.mod_mod])
theorem wb_shr {n k : Nat} (hn : n < 2 ^ 64) (hk : k < 64) : ((lN n).toUInt64 >>> ((nI k).toInt64.toUInt64 &&& Int64.toUInt64 63)).toInt64 = lN (n / 2 ^ k) := by
  rw [wb_cu k hk]
  apply wb_inj
  apply BitVec.eq_of_toNat_eq
  show ((lN n).toUInt64 >>> UInt64.ofNat k).toNat = (BitVec.ofNat 64 _).toNat
  have h1 : (UInt64.ofNat k).toNat = k := by
    show (BitVec.ofNat 64 k).toNat = k
    rw [BitVec.toNat_ofNat, Nat.mod_eq_of_lt (by omega)]
  have h2 : (lN n).toUInt64.toNat = n := wb_tn hn
  rw [UInt64.toNat_shiftRight, h1, h2, Nat.mod_eq_of_lt hk, Nat.shiftRight_eq_div_pow, BitVec.toNat_ofNat, Nat.mod_eq_of_lt (Nat.lt_of_le_of_lt (Nat.div_le_self _ _) hn)]
theorem wb_shl (n : Nat) {k : Nat} (hk : k < 64) : lN n <<< ((nI k).toInt64 &&& 63) = lN (n * 2 ^ k) := by
  rw [wb_c k hk]
  apply wb_inj
  rw [Int64.toBitVec_shiftLeft, wb_tb, wb_tb, wb_tb, wb_sm k hk]
  apply BitVec.eq_of_toNat_eq
  rw [BitVec.shiftLeft_eq', BitVec.toNat_shiftLeft, BitVec.toNat_ofNat, BitVec.toNat_ofNat, BitVec.toNat_ofNat, Nat.mod_eq_of_lt (show k < 2 ^ 64 by omega), Nat.shiftLeft_eq, Nat.mul_mod, Nat.mod_mod, ← Nat.mul_mod]
theorem wb_and {a b : Nat} (ha : a < 2 ^ 64) (hb : b < 2 ^ 64) : lN a &&& lN b = lN (a &&& b) := by
  apply wb_inj
  rw [Int64.toBitVec_and, wb_tb, wb_tb, wb_tb]
  apply BitVec.eq_of_toNat_eq
  rw [BitVec.toNat_and, BitVec.toNat_ofNat, BitVec.toNat_ofNat, BitVec.toNat_ofNat, Nat.mod_eq_of_lt ha, Nat.mod_eq_of_lt hb, Nat.mod_eq_of_lt (Nat.and_lt_two_pow _ hb)]
theorem wb_or {a b : Nat} (ha : a < 2 ^ 64) (hb : b < 2 ^ 64) : lN a ||| lN b = lN (a ||| b) := by
  apply wb_inj
  rw [Int64.toBitVec_or, wb_tb, wb_tb, wb_tb]
  apply BitVec.eq_of_toNat_eq
  rw [BitVec.toNat_or, BitVec.toNat_ofNat, BitVec.toNat_ofNat, BitVec.toNat_ofNat, Nat.mod_eq_of_lt ha, Nat.mod_eq_of_lt hb, Nat.mod_eq_of_lt (Nat.or_lt_two_pow ha hb)]
theorem wb_mask {n k : Nat} (hn : n < 2 ^ 64) (hk : k < 64) : lN n &&& lN (2 ^ k - 1) = lN (n % 2 ^ k) := by
  rw [wb_and hn (by have := wb_lt2 hk; omega), Nat.and_two_pow_sub_one_eq_mod]
theorem wb_a1 {n : Nat} (hn : n < 2 ^ 64) : lN n &&& 1 = lN (n % 2) := wb_mask (k := 1) hn (by decide)
theorem wb_bit {n k : Nat} (hn : n < 2 ^ 64) (hk : k < 64) : ((lN n).toUInt64 >>> ((nI k).toInt64.toUInt64 &&& Int64.toUInt64 63)).toInt64 &&& 1 = lN (n / 2 ^ k % 2) := by
  rw [wb_shr hn hk, wb_a1 (Nat.lt_of_le_of_lt (Nat.div_le_self _ _) hn)]

/-! ===== pure layer: the way's cells ===== -/
def pcs : Nat → Nat → Nat
  | 0, _ => 0
  | k + 1, x => pc8 (x % 256) + pcs k (x / 256)
theorem pc_at {x : Nat} : sm (fun i => x / 2 ^ i % 2) 8 = pc8 (x % 256) := by
  show 0 + x / 2 ^ 0 % 2 + x / 2 ^ 1 % 2 + x / 2 ^ 2 % 2 + x / 2 ^ 3 % 2 + x / 2 ^ 4 % 2 + x / 2 ^ 5 % 2 + x / 2 ^ 6 % 2 + x / 2 ^ 7 % 2 = _
  unfold pc8
  omega
theorem pcs_sm : ∀ (k x : Nat), sm (fun i => x / 2 ^ i % 2) (8 * k) = pcs k x
  | 0, _ => rfl
  | k + 1, x => by
    rw [show 8 * (k + 1) = 8 + 8 * k by omega, sm_split, pc_at, pcs, ← pcs_sm k (x / 256)]
    congr 1
    refine sm_cong (fun i _ => ?_)
    rw [Nat.pow_add, ← Nat.div_div_eq_div_mul]
theorem l2i127 {u : Nat} : (lN u).toInt32 &&& (127 : Int32) = nI (u % 128) := by
  rw [lN_i, pk_and (nI u) 7 (by decide)]
  congr 1
  show (BitVec.ofNat 32 u).toNat % 2 ^ 7 = u % 128
  rw [BitVec.toNat_ofNat]
  omega
theorem bitc {x : Nat} (hx : x < 2 ^ 64) : fJ13_bitCount_95d88 (lN x) = some (nI (sm (fun i => x / 2 ^ i % 2) 64)) := by
  have hb : ∃ b0 b1 b2 b3 b4 b5 b6 b7, b0 < 256 ∧ b1 < 256 ∧ b2 < 256 ∧ b3 < 256 ∧ b4 < 256 ∧ b5 < 256 ∧ b6 < 256 ∧ b7 < 256 ∧ x = by8 b0 b1 b2 b3 b4 b5 b6 b7 ∧ pcs 8 x = pc8 b0 + pc8 b1 + pc8 b2 + pc8 b3 + pc8 b4 + pc8 b5 + pc8 b6 + pc8 b7 := by
    have hm : ∀ n : Nat, n % 256 < 256 := fun n => Nat.mod_lt _ (by decide)
    have h7 : x / 256 / 256 / 256 / 256 / 256 / 256 / 256 < 256 := by
      rw [Nat.div_div_eq_div_mul, Nat.div_div_eq_div_mul, Nat.div_div_eq_div_mul, Nat.div_div_eq_div_mul, Nat.div_div_eq_div_mul, Nat.div_div_eq_div_mul]
      exact Nat.div_lt_of_lt_mul hx
    refine ⟨x % 256, x / 256 % 256, x / 256 / 256 % 256, x / 256 / 256 / 256 % 256, x / 256 / 256 / 256 / 256 % 256, x / 256 / 256 / 256 / 256 / 256 % 256, x / 256 / 256 / 256 / 256 / 256 / 256 % 256, x / 256 / 256 / 256 / 256 / 256 / 256 / 256, hm _, hm _, hm _, hm _, hm _, hm _, hm _, h7, ?_, ?_⟩
    · unfold by8
      rw [Nat.mod_add_div, Nat.mod_add_div, Nat.mod_add_div, Nat.mod_add_div, Nat.mod_add_div, Nat.mod_add_div, Nat.mod_add_div]
    · simp only [pcs]
      rw [Nat.mod_eq_of_lt h7]
      simp only [Nat.add_zero, Nat.add_assoc]
  obtain ⟨b0, b1, b2, b3, b4, b5, b6, b7, h0, h1, h2, h3, h4, h5, h6, h7, ex, ep⟩ := hb
  rw [show 64 = 8 * 8 from rfl, pcs_sm 8 x, ep]
  have a0 := t_all b0 h0
  have a1 := t_all b1 h1
  have a2 := t_all b2 h2
  have a3 := t_all b3 h3
  have a4 := t_all b4 h4
  have a5 := t_all b5 h5
  have a6 := t_all b6 h6
  have a7 := t_all b7 h7
  have c0 := t_pc b0 h0
  have c1 := t_pc b1 h1
  have c2 := t_pc b2 h2
  have c3 := t_pc b3 h3
  have c4 := t_pc b4 h4
  have c5 := t_pc b5 h5
  have c6 := t_pc b6 h6
  have c7 := t_pc b7 h7
  obtain ⟨l1, s1⟩ := s1_all h0 h1 h2 h3 h4 h5 h6 h7
  have s2 := s2_all a0.1 a1.1 a2.1 a3.1 a4.1 a5.1 a6.1 a7.1
  have s3 := s3_all a0.2 a1.2 a2.2 a3.2 a4.2 a5.2 a6.2 a7.2
  rw [c0.1, c1.1, c2.1, c3.1, c4.1, c5.1, c6.1, c7.1] at s3
  rw [← ex] at l1 s1
  generalize e1 : by8 (t1 b0) (t1 b1) (t1 b2) (t1 b3) (t1 b4) (t1 b5) (t1 b6) (t1 b7) = x1 at s1 s2
  have hx1 : x1 < 2 ^ 64 := by
    rw [← e1]
    exact by_lt a0.1 a1.1 a2.1 a3.1 a4.1 a5.1 a6.1 a7.1
  generalize e2 : by8 (t2 (t1 b0)) (t2 (t1 b1)) (t2 (t1 b2)) (t2 (t1 b3)) (t2 (t1 b4)) (t2 (t1 b5)) (t2 (t1 b6)) (t2 (t1 b7)) = x2 at s2 s3
  have hx2 : x2 + x2 / 2 ^ 4 < 2 ^ 64 := by
    have up : ∀ {a y N : Nat}, a ≤ 68 → y ≤ N → a + 256 * y ≤ 68 + 256 * N := fun h1 h2 => by omega
    have g : ∀ {z : Nat}, z % 16 ≤ 4 → z / 16 ≤ 4 → z ≤ 68 := fun h1 h2 => by omega
    have : x2 ≤ 68 + 256 * (68 + 256 * (68 + 256 * (68 + 256 * (68 + 256 * (68 + 256 * (68 + 256 * 68)))))) := by
      rw [← e2]
      exact up (g a0.2.2.1 a0.2.2.2) (up (g a1.2.2.1 a1.2.2.2) (up (g a2.2.2.1 a2.2.2.2) (up (g a3.2.2.1 a3.2.2.2) (up (g a4.2.2.1 a4.2.2.2) (up (g a5.2.2.1 a5.2.2.2) (up (g a6.2.2.1 a6.2.2.2) (g a7.2.2.1 a7.2.2.2)))))))
    have hle : x2 / 2 ^ 4 ≤ x2 := Nat.div_le_self _ _
    have : x2 + x2 ≤ 2 * (68 + 256 * (68 + 256 * (68 + 256 * (68 + 256 * (68 + 256 * (68 + 256 * (68 + 256 * 68))))))) := by omega
    exact Nat.lt_of_le_of_lt (Nat.le_trans (Nat.add_le_add_left hle x2) this) (by decide)
  have hx2' : x2 < 2 ^ 64 := Nat.lt_of_le_of_lt (Nat.le_add_right _ _) hx2
  generalize e3 : by8 (pc8 b0) (pc8 b1) (pc8 b2) (pc8 b3) (pc8 b4) (pc8 b5) (pc8 b6) (pc8 b7) = x3 at s3
  obtain ⟨hu, hz, hy, hx3, hs⟩ := fin_sum c0.2 c1.2 c2.2 c3.2 c4.2 c5.2 c6.2 c7.2 x3 (x3 + x3 / 2 ^ 8) (x3 + x3 / 2 ^ 8 + (x3 + x3 / 2 ^ 8) / 2 ^ 16) _ e3.symm rfl rfl rfl
  have mle : M1 < 2 ^ 64 ∧ M3 < 2 ^ 64 ∧ M15 < 2 ^ 64 := by decide
  have sh : ∀ (n k : Nat), n < 2 ^ 64 → k < 64 → jlushr (lN n) (nI k) = lN (n / 2 ^ k) := fun n k hn hk => wb_shr hn hk
  have dl : ∀ (n k : Nat), n < 2 ^ 64 → n / 2 ^ k < 2 ^ 64 := fun n k hn => Nat.lt_of_le_of_lt (Nat.div_le_self _ _) hn
  have g1 : lN x - ((jlushr (lN x) (1 : Int32)) &&& (6148914691236517205 : Int64)) = lN x1 := by
    rw [show jlushr (lN x) (1 : Int32) = lN (x / 2 ^ 1) from sh x 1 hx (by omega), show (6148914691236517205 : Int64) = lN M1 from rfl, wb_and (dl x 1 hx) mle.1, lN_sub l1, s1]
  have g2 : (lN x1 &&& (3689348814741910323 : Int64)) + ((jlushr (lN x1) (2 : Int32)) &&& (3689348814741910323 : Int64)) = lN x2 := by
    rw [show jlushr (lN x1) (2 : Int32) = lN (x1 / 2 ^ 2) from sh x1 2 hx1 (by omega), show (3689348814741910323 : Int64) = lN M3 from rfl, wb_and (dl x1 2 hx1) mle.2.1, wb_and hx1 mle.2.1, lN_add, show x1 / 2 ^ 2 = x1 / 4 from rfl, s2]
  have g3 : (lN x2 + jlushr (lN x2) (4 : Int32)) &&& (1085102592571150095 : Int64) = lN x3 := by
    rw [show jlushr (lN x2) (4 : Int32) = lN (x2 / 2 ^ 4) from sh x2 4 hx2' (by omega), show (1085102592571150095 : Int64) = lN M15 from rfl, lN_add, wb_and hx2 mle.2.2, show x2 / 2 ^ 4 = x2 / 16 from rfl, s3]
  have g4 : lN x3 + jlushr (lN x3) (8 : Int32) = lN (x3 + x3 / 2 ^ 8) := by
    rw [show jlushr (lN x3) (8 : Int32) = lN (x3 / 2 ^ 8) from sh x3 8 hx3 (by omega), lN_add]
  generalize x3 + x3 / 2 ^ 8 = y at *
  have g5 : lN y + jlushr (lN y) (16 : Int32) = lN (y + y / 2 ^ 16) := by
    rw [show jlushr (lN y) (16 : Int32) = lN (y / 2 ^ 16) from sh y 16 hy (by omega), lN_add]
  generalize y + y / 2 ^ 16 = z at *
  have g6 : lN z + jlushr (lN z) (32 : Int32) = lN (z + z / 2 ^ 32) := by
    rw [show jlushr (lN z) (32 : Int32) = lN (z / 2 ^ 32) from sh z 32 hz (by omega), lN_add]
  unfold fJ13_bitCount_95d88
  rw [g1, g2, g3, g4, g5, g6, l2i127, hs]
theorem sm_rows {f : Nat → Nat} {k : Nat} : ∀ R, sm f (k * R) = sm (fun r => sm (fun q => f (k * r + q)) k) R
  | 0 => rfl
  | R + 1 => by rw [Nat.mul_succ, sm_split, sm_rows R, sm]
section D1
variable {n c : Nat} {k w l : Nat → Nat} {d f wm hr b ch : Nat} {sd : Int32} {P : PT} {Q : QT} {S : XT} {M : MT} {p1 p2 p3 p4 p5 : Int32}
/-- the visited cells A, as the class's two longs and the reference's one have them -/
def WA (A : Nat → Bool) (lo hi mo : Nat) : Prop := (lo < 2 ^ 64 ∧ hi < 2 ^ 64 ∧ mo < 2 ^ 64) ∧ (∀ i, i < 64 → lo.testBit i = A i) ∧ (∀ i, i < 64 → hi.testBit i = A (64 + i)) ∧ (∀ r q, r < 7 → q < 7 → mo.testBit (7 * r + q) = A (10 * r + q)) ∧ (∀ i, 49 ≤ i → mo.testBit i = false) ∧ ∀ u, A u = true → u / 10 < 7 ∧ u % 10 < 7
theorem WA_0 : WA (fun _ => false) 0 0 0 := ⟨by decide, fun i _ => Nat.zero_testBit i, fun i _ => Nat.zero_testBit i, fun r q _ _ => Nat.zero_testBit _, fun i _ => Nat.zero_testBit i, fun u h => by cases h⟩
theorem WA_add {A : Nat → Bool} {lo hi mo x : Nat} (h : WA A lo hi mo) (hx : x / 10 < 7 ∧ x % 10 < 7) : WA (fun u => A u || decide (u = x)) (if x < 64 then lo ||| 2 ^ x else lo) (if x < 64 then hi else hi ||| 2 ^ (x - 64)) (mo ||| 2 ^ (7 * (x / 10) + x % 10)) := by
  obtain ⟨⟨l1, l2, l3⟩, h1, h2, h3, h4, h5⟩ := h
  have pw : ∀ k, k < 64 → 2 ^ k < 2 ^ 64 := fun k hk => Nat.pow_lt_pow_right (by decide) hk
  refine ⟨⟨?_, ?_, Nat.or_lt_two_pow l3 (pw _ (by omega))⟩, fun i hi' => ?_, fun i hi' => ?_, fun r q hr hq => ?_, fun i hi' => ?_, fun u hu => ?_⟩
  · split
    · next q => exact Nat.or_lt_two_pow l1 (pw _ q)
    · exact l1
  · split
    · exact l2
    · exact Nat.or_lt_two_pow l2 (pw _ (by omega))
  · by_cases q : x < 64
    · rw [if_pos q, Nat.testBit_or, h1 i hi', Nat.testBit_two_pow]
      congr 1
      exact decide_eq_decide.mpr ⟨fun z => z.symm, fun z => z.symm⟩
    · rw [if_neg q, h1 i hi']
      show A i = (A i || decide (i = x))
      rw [decide_eq_false (show ¬ i = x by omega), Bool.or_false]
  · by_cases q : x < 64
    · rw [if_pos q, h2 i hi']
      show A (64 + i) = (A (64 + i) || decide (64 + i = x))
      rw [decide_eq_false (show ¬ 64 + i = x by omega), Bool.or_false]
    · rw [if_neg q, Nat.testBit_or, h2 i hi', Nat.testBit_two_pow]
      congr 1
      exact decide_eq_decide.mpr ⟨fun z => by omega, fun z => by omega⟩
  · rw [Nat.testBit_or, h3 r q hr hq, Nat.testBit_two_pow]
    congr 1
    exact decide_eq_decide.mpr ⟨fun z => by omega, fun z => by omega⟩
  · rw [Nat.testBit_or, h4 i hi', Nat.testBit_two_pow, decide_eq_false (by omega)]
    rfl
  · rcases Bool.or_eq_true _ _ |>.mp hu with z | z
    · exact h5 u z
    · rw [of_decide_eq_true z]
      exact hx
theorem WA_sum {A : Nat → Bool} {lo hi mo : Nat} (h : WA A lo hi mo) : sm (fun i => lo / 2 ^ i % 2) 64 + sm (fun i => hi / 2 ^ i % 2) 64 = sm (fun i => mo / 2 ^ i % 2) 64 := by
  obtain ⟨-, h1, h2, h3, h4, h5⟩ := h
  have g0 : ∀ u, ¬ (u / 10 < 7 ∧ u % 10 < 7) → (A u).toNat = 0 := fun u hu => by
    cases e : A u with
    | false => rfl
    | true => exact absurd (h5 u e) hu
  have e1 : sm (fun i => lo / 2 ^ i % 2) 64 = sm (fun i => (A i).toNat) 64 := sm_cong (fun i hi => by rw [← h1 i hi, Nat.toNat_testBit])
  have e2 : sm (fun i => hi / 2 ^ i % 2) 64 = sm (fun i => (A (64 + i)).toNat) 64 := sm_cong (fun i hi => by rw [← h2 i hi, Nat.toNat_testBit])
  have e3 : sm (fun i => mo / 2 ^ i % 2) 64 = sm (fun i => (mo.testBit i).toNat) 64 := sm_cong (fun i hi => by rw [Nat.toNat_testBit])
  rw [e1, e2, e3, ← sm_split (fun i => (A i).toNat) 64 64, show 64 + 64 = 10 * 7 + 58 from rfl, sm_split, show 64 = 7 * 7 + 15 from rfl, sm_split (fun i => (mo.testBit i).toNat), sm_rows, sm_rows]
  rw [sm_zero (r := 58) (fun i hi => g0 _ (by omega)), sm_zero (r := 15) (fun i hi => by rw [h4 _ (by omega)]; rfl)]
  rw [Nat.add_zero, Nat.add_zero]
  refine sm_cong (fun r hr => ?_)
  rw [show 10 = 7 + 3 from rfl, sm_split, sm_zero (r := 3) (fun i hi => g0 _ (by omega)), Nat.add_zero]
  exact sm_cong (fun q hq => by rw [← h3 r q hr hq])
theorem c_way (hR : Rel S M) : Out (fX4_way p1 S) (fX5_way p1 M) := by
  obtain ⟨n, c, k, w, l, d, f, wm, hr, b, ch, sd, P, Q, hx, rfl, h, hX⟩ := hR
  have hR := rel_s (Q := Q) hx h hX
  have hc := h.hc
  have hn7 := h.hp.1.2
  unfold fX4_way fX5_way
  rcases mote_cases (n := n) (k := k) (w := w) (l := l) (d := d) (f := f) (wm := wm) (hr := hr) (b := b) (ch := ch) (sd := sd) (P := P) (Q := Q) p1 hx hc with ⟨a, a'⟩ | ⟨m, hm, rfl, a, a'⟩
  · rw [a, a']
    simp only [bs, ↓reduceIte]
    exact out2 hR
  obtain ⟨Q', eq, hW⟩ := m_begins (n := n) (c := c) (k := k) (w := w) (l := l) (d := d) (f := f) (wm := wm) (hr := hr) (b := b) (ch := ch) (sd := sd) (P := P) (Q := Q)
  rw [a, a', x_look hx h hX.1.1, eq]
  simp only [bs, one0, ↓reduceIte]
  have q : ∀ (r t fu : Nat) (A : Nat → Bool) (lo hi mo : Nat), t + r = 25 → r < fu → WA A lo hi mo → Out (fX4_way_L34 (nI m) fu (lN lo) (lN hi) (nI t) (xs_trial S (eH n c k w (cl n c k l d f wm b hr t) d f wm (hrs hr t) b ch sd))) (fX5_way_L24 (nI m) fu (lN mo) (nI t) (eM n c k w (cl n c k l d f wm b hr (t - 1)) d f wm (hrs hr (t - 1)) b ch sd P Q')) := by
    intro r
    induction r with
    | zero =>
      intro t fu A lo hi mo e hf hA
      obtain rfl : t = 25 := by omega
      cases fu with
      | zero => omega
      | succ fu =>
        unfold fX4_way_L34 fX5_way_L24 fX4_way_j95
        simp only [if_pos y24]
        rw [m_end h hW, bitc hA.1.1, bitc hA.1.2.1, bitc hA.1.2.2]
        simp only [bs]
        rw [nI_add, WA_sum hA]
        exact rel_e hx h hX h.after.zh rfl
    | succ r ih =>
      intro t fu A lo hi mo e hf hA
      cases fu with
      | zero => omega
      | succ fu =>
        have ih' := ih (t + 1) fu
        rw [show t + 1 - 1 = t from rfl] at ih'
        unfold fX4_way_L34 fX5_way_L24
        simp only [if_neg (n24 (show t ≤ 24 by omega))]
        rw [m_adv h (by omega)]
        unfold fX5_way_j40 fX4_way_j81
        simp only [xtg, e_side, e_count, e_kind, e_weight, e_cell, e_doors, e_fan, e_warm, e_hour, e_beam, e_chance, e_seed, f_n, f_motes, f_kind, f_own, f_cell, f_doors, f_ways, f_seed, u_gd (show m < 10 by omega) (show 10 < 2 ^ 31 by decide), u_ix (show m < 2 ^ 31 by omega)]
        rw [x_goOn1 h]
        simp only [bs]
        rw [xtt, nI_1]
        have hC : isC n (cl n c k l d f wm b hr t m) := (h.after.m hm).2.2
        have h67 := isC_lt hn7 hC
        generalize cl n c k l d f wm b hr t m = x at hC h67 ⊢
        have hC7 : x / 10 < 7 ∧ x % 10 < 7 := ⟨by have := hC.1; omega, by have := hC.2; omega⟩
        rw [u_div10 (by omega), u_irm10 (by omega), show (7 : Int32) * nI (x / 10) = nI (7 * (x / 10)) from pk_mul 7 _, nI_add, u_if (show (64 : Int32) ≤ nI x ↔ 64 ≤ x from nI_leI (a := 64) (b := x) (by omega) (by omega))]
        have pw : ∀ k, k < 64 → 2 ^ k < 2 ^ 64 := fun k hk => Nat.pow_lt_pow_right (by decide) hk
        have sh : ∀ k, k < 64 → jlshl (1 : Int64) (nI k) = lN (2 ^ k) := fun k hk => by
          have := wb_shl 1 hk
          rw [Nat.one_mul] at this
          exact this
        have hA' := WA_add hA hC7
        obtain ⟨⟨l1, l2, l3⟩, -⟩ := hA
        rw [sh (7 * (x / 10) + x % 10) (by omega), wb_or l3 (pw (7 * (x / 10) + x % 10) (by omega))]
        by_cases q : 64 ≤ x
        · rw [if_pos q, show nI x - (64 : Int32) = nI (x - 64) from pk_sub (a := x) (b := 64) q, sh _ (by omega), wb_or l2 (pw _ (by omega))]
          rw [if_neg (by omega), if_neg (by omega)] at hA'
          exact ih' _ _ _ _ (by omega) (by omega) hA'
        · rw [if_neg q, sh _ (by omega), wb_or l1 (pw _ (by omega))]
          rw [if_pos (by omega), if_pos (by omega)] at hA'
          exact ih' _ _ _ _ (by omega) (by omega) hA'
  have := q 25 0 FU _ 0 0 0 (by omega) (by show 25 < 1100; omega) WA_0
  rw [show (0 : Nat) - 1 = 0 from rfl, cl_0, hrs_0 h.hp.2.2.2.2.1] at this
  exact this
end D1
