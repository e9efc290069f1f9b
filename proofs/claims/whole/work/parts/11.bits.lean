/-! A LONG BY ITS BITS; MEMORY AS WORDS, BY ITS BITS -/
def bi (x : Int64) (i : Nat) : Bool := x.toBitVec.getLsbD i
theorem bi_ext {x y : Int64} (h : ∀ i, i < 64 → bi x i = bi y i) : x = y := Int64.toBitVec_inj.mp (BitVec.eq_of_getLsbD_eq (fun i hi => h i hi))
theorem bi_or (x y : Int64) (i : Nat) : bi (x ||| y) i = (bi x i || bi y i) := by unfold bi; rw [Int64.toBitVec_or, BitVec.getLsbD_or]
theorem bi_and (x y : Int64) (i : Nat) : bi (x &&& y) i = (bi x i && bi y i) := by unfold bi; rw [Int64.toBitVec_and, BitVec.getLsbD_and]
theorem bi_xor (x y : Int64) (i : Nat) : bi (x ^^^ y) i = (bi x i ^^ bi y i) := by unfold bi; rw [Int64.toBitVec_xor, BitVec.getLsbD_xor]
theorem bi_big {x : Int64} {i : Nat} (h : 64 ≤ i) : bi x i = false := BitVec.getLsbD_of_ge _ _ h
theorem bi_0 (i : Nat) : bi 0 i = false := BitVec.getLsbD_zero
theorem bi_m1 : ∀ i, i < 64 → bi (-1) i = true := by decide +kernel
theorem bi_not (x : Int64) {i : Nat} (hi : i < 64) : bi (x ^^^ (-1)) i = !bi x i := by
  rw [bi_xor, bi_m1 i hi]
  cases bi x i <;> rfl
theorem bi_cs : ∀ k, k < 64 → ((nI k).toInt64 &&& 63).toBitVec.smod 64 = BitVec.ofNat 64 k := by decide +kernel
theorem bi_cu : ∀ k, k < 64 → (((nI k).toInt64.toUInt64 &&& Int64.toUInt64 63).toBitVec % 64).toNat = k := by decide +kernel
theorem bi_shl (x : Int64) {k i : Nat} (hk : k < 64) (hi : i < 64) : bi (x <<< ((nI k).toInt64 &&& 63)) i = (decide (k ≤ i) && bi x (i - k)) := by
  unfold bi
  rw [Int64.toBitVec_shiftLeft, bi_cs k hk, BitVec.shiftLeft_eq', BitVec.toNat_ofNat, Nat.mod_eq_of_lt (by omega), BitVec.getLsbD_shiftLeft]
  rcases Nat.lt_or_ge i k with h | h
  · simp [h, Nat.not_le.mpr h]
  · simp [hi, h, Nat.not_lt.mpr h]
theorem bi_ushr (x : Int64) {k : Nat} (hk : k < 64) (i : Nat) : bi ((x.toUInt64 >>> ((nI k).toInt64.toUInt64 &&& Int64.toUInt64 63)).toInt64) i = bi x (k + i) := by
  show (x.toUInt64 >>> ((nI k).toInt64.toUInt64 &&& Int64.toUInt64 63)).toBitVec.getLsbD i = x.toUInt64.toBitVec.getLsbD (k + i)
  rw [UInt64.toBitVec_shiftRight]
  show (x.toUInt64.toBitVec >>> (((nI k).toInt64.toUInt64 &&& Int64.toUInt64 63).toBitVec % 64).toNat).getLsbD i = _
  rw [bi_cu k hk, BitVec.getLsbD_ushiftRight]
/-- the words of a memory, by its bits -/
def mb (W : Nat → Int64) (b : Nat) : Bool := bi (W (b / 64)) (b % 64)
/-- the lowest bytes -/
def lowB (n : Nat) : Int64 := ((-1 : Int64).toUInt64 >>> ((nI (64 - 8 * n)).toInt64.toUInt64 &&& Int64.toUInt64 63)).toInt64
theorem bi_lowB {n i : Nat} (h1 : 1 ≤ n) (h8 : n ≤ 8) (hi : i < 64) : bi (lowB n) i = decide (i < 8 * n) := by
  unfold lowB
  rw [bi_ushr _ (by omega)]
  rcases Nat.lt_or_ge i (8 * n) with h | h
  · rw [bi_m1 _ (by omega)]; simp [h]
  · rw [bi_big (by omega)]; simp [Nat.not_lt.mpr h]
/-- what lies at a place: size bytes as a number without sign -/
def rdN (B : Nat → Bool) (place n : Nat) (i : Nat) : Bool := decide (i < 8 * n) && B (8 * place + i)
def wrN (B : Nat → Bool) (place n : Nat) (v : Int64) : Nat → Bool := fun b => if 8 * place ≤ b ∧ b < 8 * (place + n) then bi v (b - 8 * place) else B b
theorem mb_lo (W : Nat → Int64) (place : Nat) {j : Nat} (h : 8 * (place % 8) + j < 64) : mb W (8 * place + j) = bi (W (place / 8)) (8 * (place % 8) + j) := by
  unfold mb
  rw [show (8 * place + j) / 64 = place / 8 by omega, show (8 * place + j) % 64 = 8 * (place % 8) + j by omega]
theorem mb_hi (W : Nat → Int64) (place : Nat) {j : Nat} (h : 64 ≤ 8 * (place % 8) + j) (h2 : 8 * (place % 8) + j < 128) : mb W (8 * place + j) = bi (W (place / 8 + 1)) (8 * (place % 8) + j - 64) := by
  unfold mb
  rw [show (8 * place + j) / 64 = place / 8 + 1 by omega, show (8 * place + j) % 64 = 8 * (place % 8) + j - 64 by omega]
/-- a load that lies in one word -/
theorem ld_one (W : Nat → Int64) {place n : Nat} (h1 : 1 ≤ n) (h8 : n ≤ 8) (h : 8 * (place % 8) + 8 * n ≤ 64) : ∀ i, i < 64 → bi (((W (place / 8)).toUInt64 >>> ((nI (8 * (place % 8))).toInt64.toUInt64 &&& Int64.toUInt64 63)).toInt64 &&& lowB n) i = rdN (mb W) place n i := by
  intro i hi
  rw [bi_and, bi_lowB h1 h8 hi, bi_ushr _ (by omega)]
  unfold rdN
  rcases Nat.lt_or_ge i (8 * n) with g | g
  · rw [mb_lo W place (by omega)]; simp [g]
  · simp [Nat.not_lt.mpr g]
/-- a load that lies in two -/
theorem ld_two (W : Nat → Int64) {place n : Nat} (h1 : 1 ≤ n) (h8 : n ≤ 8) (h : 64 < 8 * (place % 8) + 8 * n) : ∀ i, i < 64 → bi ((((W (place / 8)).toUInt64 >>> ((nI (8 * (place % 8))).toInt64.toUInt64 &&& Int64.toUInt64 63)).toInt64 ||| (W (place / 8 + 1)) <<< ((nI (64 - 8 * (place % 8))).toInt64 &&& 63)) &&& lowB n) i = rdN (mb W) place n i := by
  intro i hi
  rw [bi_and, bi_or, bi_lowB h1 h8 hi, bi_ushr _ (by omega), bi_shl _ (by omega) hi]
  unfold rdN
  rcases Nat.lt_or_ge i (8 * n) with g | g
  · rcases Nat.lt_or_ge (8 * (place % 8) + i) 64 with k | k
    · rw [mb_lo W place k, decide_eq_false (by omega : ¬ 64 - 8 * (place % 8) ≤ i)]; simp [g]
    · rw [mb_hi W place k (by omega), bi_big (x := W (place / 8)) k, decide_eq_true (by omega : 64 - 8 * (place % 8) ≤ i), show i - (64 - 8 * (place % 8)) = 8 * (place % 8) + i - 64 by omega]; simp [g]
  · simp [Nat.not_lt.mpr g]
/-- a word with some bits taken from another -/
def mrg (old mask bits : Int64) : Int64 := (old &&& (mask ^^^ (-1))) ||| (bits &&& mask)
theorem bi_mrg (old mask bits : Int64) {i : Nat} (hi : i < 64) : bi (mrg old mask bits) i = if bi mask i = true then bi bits i else bi old i := by
  unfold mrg
  rw [bi_or, bi_and, bi_and, bi_not _ hi]
  cases bi mask i <;> simp
/-- a store that lies in one word -/
theorem st_one (W : Nat → Int64) {place n : Nat} (v : Int64) (h1 : 1 ≤ n) (h8 : n ≤ 8) (h : 8 * (place % 8) + 8 * n ≤ 64) :
    mb (va_up W (place / 8) (mrg (W (place / 8)) (lowB n <<< ((nI (8 * (place % 8))).toInt64 &&& 63)) (v <<< ((nI (8 * (place % 8))).toInt64 &&& 63)))) = wrN (mb W) place n v := by
  funext b
  unfold wrN
  unfold mb
  by_cases hb : b / 64 = place / 8
  · rw [hb, va_up_self, bi_mrg _ _ _ (by omega), bi_shl _ (by omega) (by omega), bi_shl _ (by omega) (by omega)]
    by_cases g : 8 * (place % 8) ≤ b % 64
    · rw [bi_lowB h1 h8 (by omega)]
      by_cases g2 : b % 64 - 8 * (place % 8) < 8 * n
      · rw [if_pos (by simp [g, g2]), if_pos (by omega), show b - 8 * place = b % 64 - 8 * (place % 8) by omega]; simp [g]
      · rw [if_neg (by simp [g2]), if_neg (by omega)]
    · rw [if_neg (by simp [g]), if_neg (by omega)]
  · rw [va_up_ne _ _ hb, if_neg (by omega)]
/-- a store that lies in two -/
theorem st_two (W : Nat → Int64) {place n : Nat} (v : Int64) (h1 : 1 ≤ n) (h8 : n ≤ 8) (h : 64 < 8 * (place % 8) + 8 * n) :
    mb (va_up (va_up W (place / 8) (mrg (W (place / 8)) (lowB n <<< ((nI (8 * (place % 8))).toInt64 &&& 63)) (v <<< ((nI (8 * (place % 8))).toInt64 &&& 63)))) (place / 8 + 1) (mrg (W (place / 8 + 1)) (((lowB n).toUInt64 >>> ((nI (64 - 8 * (place % 8))).toInt64.toUInt64 &&& Int64.toUInt64 63)).toInt64) ((v.toUInt64 >>> ((nI (64 - 8 * (place % 8))).toInt64.toUInt64 &&& Int64.toUInt64 63)).toInt64))) = wrN (mb W) place n v := by
  funext b
  unfold wrN
  unfold mb
  by_cases hb2 : b / 64 = place / 8 + 1
  · rw [hb2, va_up_self, bi_mrg _ _ _ (by omega), bi_ushr _ (by omega), bi_ushr _ (by omega)]
    by_cases g2 : 64 - 8 * (place % 8) + b % 64 < 8 * n
    · rw [bi_lowB h1 h8 (by omega), if_pos (by simp [g2]), if_pos (by omega), show b - 8 * place = 64 - 8 * (place % 8) + b % 64 by omega]
    · have hm : ¬ bi (lowB n) (64 - 8 * (place % 8) + b % 64) = true := by
        rcases Nat.lt_or_ge (64 - 8 * (place % 8) + b % 64) 64 with k | k
        · rw [bi_lowB h1 h8 k]; simp [g2]
        · rw [bi_big k]; simp
      rw [if_neg hm, if_neg (by omega)]
  · rw [va_up_ne _ _ hb2]
    by_cases hb : b / 64 = place / 8
    · rw [hb, va_up_self, bi_mrg _ _ _ (by omega), bi_shl _ (by omega) (by omega), bi_shl _ (by omega) (by omega)]
      by_cases g : 8 * (place % 8) ≤ b % 64
      · rw [bi_lowB h1 h8 (by omega), if_pos (by simp [g]; omega), if_pos (by omega), show b - 8 * place = b % 64 - 8 * (place % 8) by omega]; simp [g]
      · rw [if_neg (by simp [g]), if_neg (by omega)]
    · rw [va_up_ne _ _ hb, if_neg (by omega)]
