/-! the class's numbers are the reference's: pieces -/
theorem jx_bmL {z : Int} (h : z.natAbs < 9223372036854775808) : z.bmod (2 ^ 64) = z := by
  rw [Int.bmod_eq_of_le (by omega) (by omega)]
theorem jx_addL {x y : Int64} (h : (x.toInt + y.toInt).natAbs < 9223372036854775808) : (x + y).toInt = x.toInt + y.toInt := by
  rw [Int64.toInt_add, jx_bmL h]
theorem jx_mulL {x y : Int64} (h : (x.toInt * y.toInt).natAbs < 9223372036854775808) : (x * y).toInt = x.toInt * y.toInt := by
  rw [Int64.toInt_mul, jx_bmL h]
def kSq (xx yy : Nat → Int32) (f t : Int32) : Int64 := 100 * ((xx t.toNatClampNeg - xx f.toNatClampNeg).toInt64 * (xx t.toNatClampNeg - xx f.toNatClampNeg).toInt64 + (yy t.toNatClampNeg - yy f.toNatClampNeg).toInt64 * (yy t.toNatClampNeg - yy f.toNatClampNeg).toInt64)
theorem jx_sq {d : Int32} (h : d.toInt.natAbs ≤ 2440000) : (d.toInt64 * d.toInt64).toInt = ((d.toInt.natAbs * d.toInt.natAbs : Nat) : Int) ∧ d.toInt.natAbs * d.toInt.natAbs ≤ 5953600000000 := by
  have h1 : d.toInt.natAbs * d.toInt.natAbs ≤ 2440000 * 2440000 := Nat.mul_le_mul h h
  refine ⟨?_, h1⟩
  have h2 : (d.toInt64.toInt * d.toInt64.toInt).natAbs < 9223372036854775808 := by
    rw [Int32.toInt_toInt64, Int.natAbs_mul]
    exact Nat.lt_of_le_of_lt h1 (by decide)
  rw [jx_mulL h2, Int32.toInt_toInt64, Int.natAbs_mul_self]
theorem kSq_n {xx yy : Nat → Int32} {f t : Int32} (hx : (xx t.toNatClampNeg - xx f.toNatClampNeg).toInt.natAbs ≤ 2440000) (hy : (yy t.toNatClampNeg - yy f.toNatClampNeg).toInt.natAbs ≤ 2440000) : ∃ S : Nat, S ≤ 1190720000000000 ∧ kSq xx yy f t = lN S := by
  obtain ⟨a1, a2⟩ := jx_sq hx
  obtain ⟨b1, b2⟩ := jx_sq hy
  unfold kSq
  generalize (xx t.toNatClampNeg - xx f.toNatClampNeg).toInt.natAbs * (xx t.toNatClampNeg - xx f.toNatClampNeg).toInt.natAbs = u at a1 a2
  generalize (yy t.toNatClampNeg - yy f.toNatClampNeg).toInt.natAbs * (yy t.toNatClampNeg - yy f.toNatClampNeg).toInt.natAbs = v at b1 b2
  generalize (xx t.toNatClampNeg - xx f.toNatClampNeg).toInt64 * (xx t.toNatClampNeg - xx f.toNatClampNeg).toInt64 = z at a1 ⊢
  generalize (yy t.toNatClampNeg - yy f.toNatClampNeg).toInt64 * (yy t.toNatClampNeg - yy f.toNatClampNeg).toInt64 = w at b1 ⊢
  refine ⟨100 * (u + v), by omega, Int64.toInt_inj.mp ?_⟩
  have e1 : (z + w).toInt = (u : Int) + (v : Int) := by rw [jx_addL (by rw [a1, b1]; omega), a1, b1]
  have e2 : (100 : Int64).toInt = 100 := by decide
  rw [jx_mulL (by rw [e1, e2]; omega), e1, e2, pk_lT (by omega)]
  omega
/-! the root, by bits and by halves -/
theorem mBs_spec {S : Nat} (hS : S < 4000000000000000000) : ∀ n lo hi, mBd n lo hi → lo * lo ≤ S → S < hi * hi → mBs (lN S) n lo hi * mBs (lN S) n lo hi ≤ S ∧ S < (mBs (lN S) n lo hi + 1) * (mBs (lN S) n lo hi + 1)
  | 0, lo, hi, h, h1, h2 => by
    obtain ⟨a, b, c⟩ := h
    have e : hi = lo + 1 := by
      have : (2 : Nat) ^ 0 = 1 := rfl
      omega
    subst e
    exact ⟨h1, h2⟩
  | n + 1, lo, hi, h, h1, h2 => by
    rw [mBs]
    split
    · rename_i c
      have e : hi = lo + 1 := by have := h.1; omega
      subst e
      exact ⟨h1, h2⟩
    · rename_i c
      have c : 1 < hi - lo := by omega
      have hm : (lo + hi) / 2 ≤ 2000000000 := by have := h.2.1; have := h.1; omega
      have hmm : (lo + hi) / 2 * ((lo + hi) / 2) ≤ 2000000000 * 2000000000 := Nat.mul_le_mul hm hm
      have key : lN ((lo + hi) / 2) * lN ((lo + hi) / 2) ≤ lN S ↔ (lo + hi) / 2 * ((lo + hi) / 2) ≤ S := by
        rw [lN_mul]
        exact pk_lLE (Nat.lt_of_le_of_lt hmm (by decide)) (Nat.lt_trans hS (by decide))
      split
      · rename_i q
        exact mBs_spec hS n _ _ (mBd_l h c) (key.mp q) h2
      · rename_i q
        exact mBs_spec hS n _ _ (mBd_r h c) h1 (Nat.lt_of_not_le (fun k => q (key.mpr k)))
theorem kRt_bit : ∀ n, n < 31 → (1 : Int64) <<< ((nI (31 - n) - 1).toInt64 &&& 63) = lN (2 ^ (30 - n)) := by decide +kernel
theorem kRt_spec {S : Nat} (hS : S < 4000000000000000000) : ∀ n, n ≤ 31 → ∃ a : Nat, kRt (lN S) n = lN a ∧ a * a ≤ S ∧ S < (a + 2 ^ (31 - n)) * (a + 2 ^ (31 - n)) ∧ a + 2 ^ (31 - n) ≤ 2147483648
  | 0, _ => ⟨0, rfl, Nat.zero_le _, Nat.lt_trans hS (by decide), by decide⟩
  | n + 1, hn => by
    obtain ⟨a, e, h1, h2, h3⟩ := kRt_spec hS n (by omega)
    have hb : 2 ^ (31 - n) = 2 ^ (30 - n) + 2 ^ (30 - n) := by
      rw [show 31 - n = (30 - n) + 1 by omega, Nat.pow_succ]
      omega
    rw [hb] at h2 h3
    rw [show 31 - (n + 1) = 30 - n by omega]
    rw [kRt, kRt_bit n (by omega), e, lN_add, lN_mul]
    generalize 2 ^ (30 - n) = b at h2 h3 ⊢
    have hab : (a + b) * (a + b) ≤ 2147483648 * 2147483648 := Nat.mul_le_mul (by omega) (by omega)
    have key : lN ((a + b) * (a + b)) ≤ lN S ↔ (a + b) * (a + b) ≤ S := pk_lLE (Nat.lt_of_le_of_lt hab (by decide)) (Nat.lt_trans hS (by decide))
    split
    · rename_i q
      exact ⟨a + b, rfl, key.mp q, by rw [Nat.add_assoc]; exact h2, by omega⟩
    · rename_i q
      exact ⟨a, rfl, h1, Nat.lt_of_not_le (fun k => q (key.mpr k)), by omega⟩
theorem jx_root {S a r : Nat} (h1 : a * a ≤ S) (h2 : S < (a + 1) * (a + 1)) (h3 : r * r ≤ S) (h4 : S < (r + 1) * (r + 1)) : a = r := by
  rcases Nat.lt_trichotomy a r with h | h | h
  · have := Nat.mul_le_mul (show a + 1 ≤ r from h) (show a + 1 ≤ r from h)
    omega
  · exact h
  · have := Nat.mul_le_mul (show r + 1 ≤ a from h) (show r + 1 ≤ a from h)
    omega
theorem jroot {S : Nat} (hS : S ≤ 1190720000000000) : ∃ r : Nat, r < 2 ^ 30 ∧ kroot (lN S) = nI r ∧ mBs (lN S) 31 0 2000000000 = r := by
  obtain ⟨a, e, h1, h2, h3⟩ := kRt_spec (S := S) (by omega) 31 (Nat.le_refl _)
  have h2 : S < (a + 1) * (a + 1) := h2
  obtain ⟨h4, h5⟩ := mBs_spec (S := S) (by omega) 31 0 2000000000 mBd_0 (Nat.zero_le _) (Nat.lt_of_le_of_lt hS (by decide))
  refine ⟨a, ?_, ?_, (jx_root h1 h2 h4 h5).symm⟩
  · rcases Nat.lt_or_ge a (2 ^ 30) with h | h
    · exact h
    · have h6 := Nat.mul_le_mul h h
      have h7 : (2 : Nat) ^ 30 * 2 ^ 30 = 1152921504606846976 := by decide
      rw [h7] at h6
      omega
  · unfold kroot
    rw [e, lN_i]
/-! corners that are points -/
def jCor (cor : Nat → Int32) (sn : Nat → Nat) (n k : Nat) : Prop := ∀ i, i < sn k → ∃ c, c < n ∧ cor (k * 8 + i) = nI c
theorem kSq_c {x1 y1 x2 y2 : Nat → Int32} {c d : Nat} (hc : c < 2 ^ 31) (hd : d < 2 ^ 31) (h1 : x2 c = x1 c) (h2 : x2 d = x1 d) (h3 : y2 c = y1 c) (h4 : y2 d = y1 d) : kSq x2 y2 (nI c) (nI d) = kSq x1 y1 (nI c) (nI d) := by
  unfold kSq
  rw [nI_clamp hc, nI_clamp hd, h1, h2, h3, h4]
theorem jLen {x1 y1 x2 y2 cor : Nat → Int32} {sn : Nat → Nat} {n k i : Nat} (hn : n ≤ 20) (hx : ∀ p, p < n → x2 p = x1 p) (hy : ∀ p, p < n → y2 p = y1 p) (bx : ∀ p, p < n → (x1 p).toInt.natAbs ≤ 61000 * (p + 1)) (bY : ∀ p, p < n → (y1 p).toInt.natAbs ≤ 61000 * (p + 1)) (hc : jCor cor sn n k) (hi : i < sn k) : ∃ r : Nat, r < 2 ^ 30 ∧ kLen x1 y1 cor sn k i = nI r ∧ mLen x2 y2 cor sn k i = nI r := by
  obtain ⟨c, hc1, hc2⟩ := hc i hi
  obtain ⟨d, hd1, hd2⟩ := hc _ (kNx_lt hi)
  have b1 := bx c hc1
  have b2 := bx d hd1
  have b3 := bY c hc1
  have b4 := bY d hd1
  have s1 : (x1 d - x1 c).toInt = (x1 d).toInt - (x1 c).toInt := jx_sub (by omega)
  have s2 : (y1 d - y1 c).toInt = (y1 d).toInt - (y1 c).toInt := jx_sub (by omega)
  obtain ⟨S, hS, e⟩ := kSq_n (xx := x1) (yy := y1) (f := nI c) (t := nI d) (by rw [nI_clamp (by omega), nI_clamp (by omega), s1]; omega) (by rw [nI_clamp (by omega), nI_clamp (by omega), s2]; omega)
  obtain ⟨r, hr, r1, r2⟩ := jroot hS
  refine ⟨r, hr, ?_, ?_⟩
  · show kroot (kSq x1 y1 (cor (k * 8 + i)) (cor (k * 8 + kNx (sn k) i))) = nI r
    rw [hc2, hd2, e, r1]
  · show nI (mBs (kSq x2 y2 (cor (8 * k + i)) (cor (8 * k + kNx (sn k) i))) 31 0 2000000000) = nI r
    rw [Nat.mul_comm 8 k, hc2, hd2, kSq_c (by omega) (by omega) (hx c hc1) (hx d hd1) (hy c hc1) (hy d hd1), e, r2]
/-! area -/
theorem jAr {x1 y1 x2 y2 cor : Nat → Int32} {sn : Nat → Nat} {n k : Nat} (hn : n ≤ 20) (hx : ∀ p, p < n → x2 p = x1 p) (hy : ∀ p, p < n → y2 p = y1 p) (hc : jCor cor sn n k) : ∀ i, i ≤ sn k → mAr x2 y2 cor sn k i = kAr x1 y1 cor sn k i
  | 0, _ => rfl
  | i + 1, hi => by
    obtain ⟨c, hc1, hc2⟩ := hc i (by omega)
    obtain ⟨d, hd1, hd2⟩ := hc _ (kNx_lt (show i < sn k by omega))
    rw [mAr, kAr, jAr hn hx hy hc i (by omega), Nat.mul_comm 8 k, hc2, hd2, nI_clamp (by omega), nI_clamp (by omega), hx c hc1, hx d hd1, hy c hc1, hy d hd1]
theorem jArea {x1 y1 x2 y2 cor : Nat → Int32} {sn : Nat → Nat} {n k : Nat} (hn : n ≤ 20) (hx : ∀ p, p < n → x2 p = x1 p) (hy : ∀ p, p < n → y2 p = y1 p) (hc : jCor cor sn n k) : mArea x2 y2 cor sn k = kArea x1 y1 cor sn k := by
  unfold mArea kArea
  rw [jAr hn hx hy hc (sn k) (Nat.le_refl _)]
  generalize kAr x1 y1 cor sn k (sn k) = z
  have z0 : (0 : Int64).toInt = 0 := by decide
  by_cases h1 : z < 0
  · rw [if_pos h1, if_neg (fun h2 => by rw [Int64.lt_iff_toInt_lt] at h1 h2; omega)]
  · rw [if_neg h1]
    by_cases h2 : 0 < z
    · rw [if_pos h2]
    · rw [if_neg h2]
      have e : z = 0 := Int64.toInt_inj.mp (by rw [Int64.lt_iff_toInt_lt] at h1 h2; omega)
      rw [e]
      decide
/-! gaps -/
theorem jGp {al : Int32} {a b : Nat} (h0 : 0 ≤ al.toInt) (h1 : al.toInt ≤ 100) (ha : a < 2 ^ 30) (hb : b < 2 ^ 30) : (al < (if 0 ≤ nI a - nI b then nI a - nI b else 0 - (nI a - nI b))) ↔ (al < nI a - nI b ∨ nI a - nI b < -al) := by
  have e : (nI a - nI b).toInt = (a : Int) - (b : Int) := pk_sub_toInt (by omega) (by omega)
  have z0 : (0 : Int32).toInt = 0 := by decide
  have en : (-al).toInt = -al.toInt := by rw [Int32.toInt_neg, jx_bm (by omega)]
  generalize nI a - nI b = d at e ⊢
  have e2 : (0 - d).toInt = -d.toInt := by rw [jx_sub (by omega), z0]; omega
  split
  · rename_i c
    rw [Int32.le_iff_toInt_le] at c
    simp only [Int32.lt_iff_toInt_lt, en]
    omega
  · rename_i c
    rw [Int32.le_iff_toInt_le] at c
    simp only [Int32.lt_iff_toInt_lt, en, e2]
    omega
theorem jGap {x1 y1 x2 y2 cor : Nat → Int32} {sn jn : Nat → Nat} {al : Int32} {m : Nat} (h : ∀ i, i < m → (kGp x1 y1 cor sn jn al i ↔ mGp x2 y2 cor sn jn al i)) : ∀ i, i ≤ m → mGap x2 y2 cor sn jn al i = kGap x1 y1 cor sn jn al i
  | 0, _ => rfl
  | i + 1, hi => by
    rw [mGap, kGap, jGap h i (by omega)]
    by_cases c : kGap x1 y1 cor sn jn al i = -1
    · rw [if_pos c, if_pos c]
      by_cases q : kGp x1 y1 cor sn jn al i
      · rw [if_pos ((h i (by omega)).mp q), if_pos q]
      · rw [if_neg (fun w => q ((h i (by omega)).mpr w)), if_neg q]
    · rw [if_neg c, if_neg c]
theorem jGp_i {x1 y1 x2 y2 cor : Nat → Int32} {sn jn : Nat → Nat} {al : Int32} {n pcs i : Nat} (hn : n ≤ 20) (hx : ∀ p, p < n → x2 p = x1 p) (hy : ∀ p, p < n → y2 p = y1 p) (bx : ∀ p, p < n → (x1 p).toInt.natAbs ≤ 61000 * (p + 1)) (bY : ∀ p, p < n → (y1 p).toInt.natAbs ≤ 61000 * (p + 1)) (hc : ∀ k, k < pcs → jCor cor sn n k) (h0 : 0 ≤ al.toInt) (h1 : al.toInt ≤ 100) (hj : (jn (i * 4) < pcs ∧ jn (i * 4 + 1) < sn (jn (i * 4))) ∧ jn (i * 4 + 2) < pcs ∧ jn (i * 4 + 3) < sn (jn (i * 4 + 2))) : kGp x1 y1 cor sn jn al i ↔ mGp x2 y2 cor sn jn al i := by
  obtain ⟨⟨j1, j2⟩, j3, j4⟩ := hj
  obtain ⟨a, ha, e1, e2⟩ := jLen hn hx hy bx bY (hc _ j1) j2
  obtain ⟨b, hb, e3, e4⟩ := jLen hn hx hy bx bY (hc _ j3) j4
  unfold kGp mGp kDf mDf
  rw [Nat.mul_comm 4 i, e1, e2, e3, e4]
  exact jGp h0 h1 ha hb
/-! rooms -/
theorem jLo {p1 p2 cor : Nat → Int32} {sn : Nat → Nat} {n k : Nat} (hn : n ≤ 20) (hx : ∀ p, p < n → p2 p = p1 p) (hc : jCor cor sn n k) : ∀ j, j < sn k → mLo p2 cor k j = kLo p1 cor k j ∧ ∃ c, c < n ∧ kLo p1 cor k j = p1 c
  | 0, h => by
    obtain ⟨c, hc1, hc2⟩ := hc 0 h
    rw [mLo, kLo, Nat.mul_comm 8 k, show cor (k * 8) = nI c from hc2, hc2, nI_clamp (by omega)]
    exact ⟨hx c hc1, c, hc1, rfl⟩
  | j + 1, h => by
    obtain ⟨e, c, hc1, hc2⟩ := jLo hn hx hc j (by omega)
    obtain ⟨d, hd1, hd2⟩ := hc (j + 1) h
    rw [mLo, kLo, Nat.mul_comm 8 k, hd2, nI_clamp (by omega), hx d hd1, e]
    refine ⟨rfl, ?_⟩
    split
    · exact ⟨d, hd1, rfl⟩
    · exact ⟨c, hc1, hc2⟩
theorem jHi {p1 p2 cor : Nat → Int32} {sn : Nat → Nat} {n k : Nat} (hn : n ≤ 20) (hx : ∀ p, p < n → p2 p = p1 p) (hc : jCor cor sn n k) : ∀ j, j < sn k → mHi p2 cor k j = kHi p1 cor k j ∧ ∃ c, c < n ∧ kHi p1 cor k j = p1 c
  | 0, h => by
    obtain ⟨c, hc1, hc2⟩ := hc 0 h
    rw [mHi, kHi, Nat.mul_comm 8 k, show cor (k * 8) = nI c from hc2, hc2, nI_clamp (by omega)]
    exact ⟨hx c hc1, c, hc1, rfl⟩
  | j + 1, h => by
    obtain ⟨e, c, hc1, hc2⟩ := jHi hn hx hc j (by omega)
    obtain ⟨d, hd1, hd2⟩ := hc (j + 1) h
    rw [mHi, kHi, Nat.mul_comm 8 k, hd2, nI_clamp (by omega), hx d hd1, e]
    refine ⟨rfl, ?_⟩
    split
    · exact ⟨d, hd1, rfl⟩
    · exact ⟨c, hc1, hc2⟩
theorem jLH (pl cor : Nat → Int32) (k : Nat) : ∀ j, kLo pl cor k j ≤ kHi pl cor k j
  | 0 => Int32.le_refl _
  | j + 1 => by
    have ih := jLH pl cor k j
    rw [kLo, kHi]
    rw [Int32.le_iff_toInt_le] at ih ⊢
    split <;> split
    · exact Int.le_refl _
    · rename_i a b; rw [Int32.lt_iff_toInt_lt] at a b; omega
    · rename_i a b; rw [Int32.lt_iff_toInt_lt] at a b; omega
    · exact ih
theorem jRoom {p1 p2 cor : Nat → Int32} {sn : Nat → Nat} {n k : Nat} (hn : n ≤ 20) (hx : ∀ p, p < n → p2 p = p1 p) (bx : ∀ p, p < n → (p1 p).toInt.natAbs ≤ 61000 * (p + 1)) (hc : jCor cor sn n k) (hs : 0 < sn k) : mRoom p2 cor sn k = kRoom p1 cor sn k ∧ (kRoom p1 cor sn k).toNatClampNeg ≤ 3000000 := by
  obtain ⟨e1, c, hc1, hc2⟩ := jLo hn hx hc (sn k - 1) (by omega)
  obtain ⟨e2, d, hd1, hd2⟩ := jHi hn hx hc (sn k - 1) (by omega)
  have hle := jLH p1 cor k (sn k - 1)
  rw [Int32.le_iff_toInt_le, hc2, hd2] at hle
  have b1 := bx c hc1
  have b2 := bx d hd1
  unfold mRoom kRoom
  rw [e1, e2, hc2, hd2]
  have s : (p1 d - p1 c).toInt = (p1 d).toInt - (p1 c).toInt := jx_sub (by omega)
  have o1 : (1 : Int32).toInt = 1 := by decide
  by_cases q : p1 d = p1 c
  · rw [if_pos q, if_pos (by rw [Int32.lt_iff_toInt_lt, s, o1, q]; omega)]
    exact ⟨rfl, by decide⟩
  · have q2 : (p1 d).toInt ≠ (p1 c).toInt := fun w => q (Int32.toInt_inj.mp w)
    rw [if_neg q, if_neg (by rw [Int32.lt_iff_toInt_lt, s, o1]; omega)]
    refine ⟨rfl, ?_⟩
    show (p1 d - p1 c).toInt.toNat ≤ 3000000
    rw [s]
    omega
/-! hangs -/
theorem jbit (x : Int32) : x &&& 1 = 0 ∨ x &&& 1 = 1 := by
  have h1 : ∀ i, i < 32 → (1 : Int32).toBitVec.getLsbD i = decide (i = 0) := by decide +kernel
  have h0 : ∀ i, i < 32 → (0 : Int32).toBitVec.getLsbD i = false := by decide +kernel
  cases hb : x.toBitVec.getLsbD 0 with
  | false =>
    left
    apply Int32.toBitVec_inj.mp
    apply BitVec.eq_of_getLsbD_eq
    intro i hi
    rw [Int32.toBitVec_and, BitVec.getLsbD_and, h1 i hi, h0 i hi]
    by_cases e : i = 0
    · rw [e, hb]; rfl
    · rw [decide_eq_false e, Bool.and_false]
  | true =>
    right
    apply Int32.toBitVec_inj.mp
    apply BitVec.eq_of_getLsbD_eq
    intro i hi
    rw [Int32.toBitVec_and, BitVec.getLsbD_and, h1 i hi]
    by_cases e : i = 0
    · rw [e, hb]; rfl
    · rw [decide_eq_false e, Bool.and_false]
theorem jsh0 : ∀ k, k < 7 → (0 : Int32) <<< (nI k &&& 31) = 0 := by decide +kernel
theorem jOn {kd ba ot aa bb : Nat → Int32} {measure bits : Int32} {p : Nat} (h : jPt kd ba ot aa bb p) : mOn kd (jK1 kd ba aa) (jK2 kd ot aa bb) measure p bits ↔ kOnP kd ba ot p measure bits := by
  have hk : kd p = 0 ∨ kd p = 1 ∨ kd p = 2 ∨ kd p = 3 ∨ kd p = 4 := by
    rcases h with ⟨h, _⟩ | ⟨h, _⟩ | ⟨h | h, _⟩ | ⟨h, _⟩ <;> simp [h]
  unfold mOn kOnP jK1 jK2
  rcases hk with h | h | h | h | h <;> simp [h]
  all_goals try (constructor <;> intro q <;> rcases q with q | q <;> simp [q])
theorem jPO {kd ba ot aa bb : Nat → Int32} {measure : Int32} {n : Nat} (h : ∀ p, p < n → jPt kd ba ot aa bb p) : ∀ i, i ≤ n → mPO kd (jK1 kd ba aa) (jK2 kd ot aa bb) measure i = kPO kd ba ot measure i
  | 0, _ => rfl
  | i + 1, hi => by
    rw [mPO, kPO, jPO h i (by omega)]
    by_cases q : kOnP kd ba ot i measure (kPO kd ba ot measure i)
    · rw [if_pos ((jOn (h i (by omega))).mpr q), if_pos q]
    · rw [if_neg (fun w => q ((jOn (h i (by omega))).mp w)), if_neg q, Int32.or_zero]
theorem jPWi {cor : Nat → Int32} {pb : Int32} {k : Nat} (hk : k < 7) : ∀ i b, mPWi cor pb k i b = kPWi cor pb k i b
  | 0, _ => rfl
  | i + 1, b => by
    rw [mPWi, kPWi, jPWi hk i b, Nat.mul_comm 8 k]
    rcases jbit (pb >>> (cor (k * 8 + i) &&& 31)) with q | q
    · rw [q, if_neg (by decide), jsh0 k hk, Int32.or_zero]
    · rw [q, if_pos rfl]
theorem jPW {cor : Nat → Int32} {sn : Nat → Nat} {pb : Int32} : ∀ k, k ≤ 7 → mPW cor sn pb k = kPW cor sn pb k
  | 0, _ => rfl
  | k + 1, hk => by rw [mPW, kPW, jPW k (by omega), jPWi (by omega)]
/-! digest -/
theorem jXPi {cor : Nat → Int32} {k : Nat} : ∀ i h, mXPi cor k i h = kXPi cor k i h
  | 0, _ => rfl
  | i + 1, h => by rw [mXPi, kXPi, jXPi i h, Nat.mul_comm 8 k]
theorem jXP {cor : Nat → Int32} {sn : Nat → Nat} : ∀ k h, mXP cor sn k h = kXP cor sn k h
  | 0, _ => rfl
  | k + 1, h => by rw [mXP, kXP, jXP k h, jXPi]
theorem jXC {cu se fi pr : Nat → Nat} : ∀ n h, mXC cu se fi pr (4 * n) h = kXC cu se fi pr n h
  | 0, _ => rfl
  | n + 1, h => by
    rw [show 4 * (n + 1) = 4 * n + 1 + 1 + 1 + 1 from rfl, mXC, mXC, mXC, mXC, kXC, jXC n h]
    rw [show 4 * n + 1 + 1 + 1 = 4 * n + 3 from rfl, show 4 * n + 1 + 1 = 4 * n + 2 from rfl, i4_0, i4_1, i4_2, i4_3]
theorem jMP {x1 y1 x2 y2 : Nat → Int32} {n : Nat} (hx : ∀ p, p < n → x2 p = x1 p) (hy : ∀ p, p < n → y2 p = y1 p) : ∀ i h, i ≤ n → kMP x2 y2 i h = kMP x1 y1 i h
  | 0, _, _ => rfl
  | i + 1, h, hi => by rw [kMP, kMP, jMP hx hy i h (by omega), hx i (by omega), hy i (by omega)]
theorem jDM {hd bd ms dy vl hbt : Nat → Int32} {told b : Nat} {g g2 : Int64} (h : ∀ i, i < told → dy i ≤ 10000) (e : mDM hd bd ms dy vl hbt told (6 * b) g = g2) : ∀ j, j ≤ 6 → mDM hd bd ms dy vl hbt told (6 * b + j) g = kMM hd bd ms dy vl hbt told b j g2
  | 0, _ => e
  | j + 1, hj => by
    rw [show 6 * b + (j + 1) = 6 * b + j + 1 from rfl, mDM, kMM, jDM h e j (by omega), show (6 * b + j) / 6 = b by omega, show (6 * b + j) % 6 = j by omega, kLat_eq h]
theorem jMB {hd bd ms dy vl hbt : Nat → Int32} {told : Nat} (h : ∀ i, i < told → dy i ≤ 10000) : ∀ b g, mDM hd bd ms dy vl hbt told (6 * b) g = kMB hd bd ms dy vl hbt told b g
  | 0, _ => rfl
  | b + 1, g => by
    rw [show 6 * (b + 1) = 6 * b + 6 from rfl, jDM h (jMB h b g) 6 (Nat.le_refl _), kMB]
