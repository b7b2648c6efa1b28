/-! bits: what both sides compute in two ways -/
theorem fb_1 (i : Nat) : bt 1 i = decide (i = 0) := by
  rcases Nat.lt_or_ge i 32 with h | h
  · exact (by decide +kernel : ∀ i, i < 32 → bt 1 i = decide (i = 0)) i h
  · rw [b_big h, decide_eq_false (by omega)]
theorem fb_byte (w : Int32) {n : Nat} (hn : n ≤ 24) : (w >>> (nI n &&& 31)) &&& 255 = ((w.toUInt32 >>> ((nI n).toUInt32 &&& Int32.toUInt32 31)).toInt32) &&& 255 := b_ext fun i hi => by
  rw [b_and, b_and, b_255, b_ushr n (by omega), b_sshr n (by omega) w hi]
  by_cases h : i < 8
  · rw [if_pos (by omega)]
  · rw [decide_eq_false h, Bool.and_false, Bool.and_false]
theorem fb_and1 (x : Int32) : x &&& 1 = 0 ↔ bt x 0 = false := by
  constructor
  · intro h
    have := b_and x 1 0
    rw [h, b_0, fb_1] at this
    simpa using this.symm
  · intro h
    apply b_ext
    intro i hi
    rw [b_and, fb_1, b_0]
    by_cases z : i = 0
    · subst z; rw [h]; rfl
    · rw [decide_eq_false z, Bool.and_false]
theorem fb_own {v : Nat} (hv : v < 32) {i : Nat} (hi : i < 32) : bt ((1 : Int32) <<< (nI v &&& 31)) i = decide (i = v) := by
  rw [b_shl v hv 1 hi, fb_1]
  by_cases z : i = v
  · subst z; simp
  · by_cases y : v ≤ i
    · rw [decide_eq_false z, decide_eq_false (show ¬ i - v = 0 by omega), Bool.and_false]
    · rw [decide_eq_false z, decide_eq_false y, Bool.false_and]
theorem fb_has (s : Int32) {v : Nat} (hv : v < 32) : (s >>> (nI v &&& 31)) &&& 1 = 0 ↔ s &&& ((1 : Int32) <<< (nI v &&& 31)) = 0 := by
  rw [fb_and1, b_sshr v hv s (i := 0) (by omega), if_pos (by omega), Nat.add_zero]
  constructor
  · intro h
    apply b_ext
    intro i hi
    rw [b_and, fb_own hv hi, b_0]
    by_cases z : i = v
    · subst z; rw [h]; rfl
    · rw [decide_eq_false z, Bool.and_false]
  · intro h
    have := b_and s ((1 : Int32) <<< (nI v &&& 31)) v
    rw [h, b_0, fb_own hv hv] at this
    simpa using this.symm
theorem fb_or0 (x : Int32) : (0 : Int32) ||| x = x := b_ext fun i _ => by rw [b_or, b_0, Bool.false_or]
theorem fb_0or (x : Int32) : x ||| (0 : Int32) = x := b_ext fun i _ => by rw [b_or, b_0, Bool.or_false]
theorem fb_orC (x y : Int32) : x ||| y = y ||| x := b_ext fun i _ => by rw [b_or, b_or, Bool.or_comm]
theorem fb_orA (x y z : Int32) : (x ||| y) ||| z = x ||| (y ||| z) := b_ext fun i _ => by rw [b_or, b_or, b_or, b_or, Bool.or_assoc]
theorem fb_shl0 {n : Nat} (hn : n < 32) : (0 : Int32) <<< (nI n &&& 31) = 0 := b_ext fun i hi => by rw [b_shl n hn _ hi, b_0, b_0, Bool.and_false]
theorem fb_shlor {n : Nat} (hn : n < 32) (x y : Int32) : (x ||| y) <<< (nI n &&& 31) = (x <<< (nI n &&& 31)) ||| (y <<< (nI n &&& 31)) := b_ext fun i hi => by
  rw [b_shl n hn _ hi, b_or, b_or, b_shl n hn _ hi, b_shl n hn _ hi, Bool.and_or_distrib_left]
theorem fb_shlshl {m n : Nat} (h : m + n < 32) (x : Int32) : (x <<< (nI m &&& 31)) <<< (nI n &&& 31) = x <<< (nI (m + n) &&& 31) := b_ext fun i hi => by
  rw [b_shl n (by omega) _ hi, b_shl (m + n) h _ hi]
  by_cases z : n ≤ i
  · rw [b_shl m (by omega) x (i := i - n) (by omega), decide_eq_true z, Bool.true_and, show i - n - m = i - (m + n) by omega]
    by_cases y : m + n ≤ i
    · rw [decide_eq_true y, decide_eq_true (by omega)]
    · rw [decide_eq_false y, decide_eq_false (by omega)]
  · rw [decide_eq_false z, decide_eq_false (by omega), Bool.false_and, Bool.false_and]
theorem fb_hi0 (x : Int32) {n : Nat} (hn : n < 32) : (x >>> (nI n &&& 31)) = 0 ↔ ∀ i, n ≤ i → i < 32 → bt x i = false := by
  constructor
  · intro h i h1 h2
    have := b_sshr n hn x (i := i - n) (by omega)
    rw [h, b_0, if_pos (by omega), show n + (i - n) = i by omega] at this
    exact this.symm
  · intro h
    apply b_ext
    intro i hi
    rw [b_sshr n hn x hi, b_0]
    by_cases z : n + i < 32
    · rw [if_pos z]; exact h _ (by omega) z
    · rw [if_neg z]; exact h 31 (by omega) (by omega)
theorem fb_uhi0 (x : Int32) {n : Nat} (hn : n < 32) : ((x.toUInt32 >>> ((nI n).toUInt32 &&& Int32.toUInt32 31)).toInt32) = 0 ↔ ∀ i, n ≤ i → i < 32 → bt x i = false := by
  constructor
  · intro h i h1 h2
    have := b_ushr n hn x (i - n)
    rw [h, b_0, show n + (i - n) = i by omega] at this
    exact this.symm
  · intro h
    apply b_ext
    intro i hi
    rw [b_ushr n hn x i, b_0]
    by_cases z : n + i < 32
    · exact h _ (by omega) z
    · exact b_big (by omega)
theorem fb_fit (x : Int32) {n : Nat} (hn : n < 32) : ((x.toUInt32 >>> ((nI n).toUInt32 &&& Int32.toUInt32 31)).toInt32) = 0 ↔ (x >>> (nI n &&& 31)) = 0 := by
  rw [fb_uhi0 x hn, fb_hi0 x hn]
theorem fb_him1 (x : Int32) {n : Nat} (hn : n < 32) : (x >>> (nI n &&& 31)) = -1 ↔ ∀ i, n ≤ i → i < 32 → bt x i = true := by
  constructor
  · intro h i h1 h2
    have := b_sshr n hn x (i := i - n) (by omega)
    rw [h, b_m1 _ (by omega), if_pos (by omega), show n + (i - n) = i by omega] at this
    exact this.symm
  · intro h
    apply b_ext
    intro i hi
    rw [b_sshr n hn x hi, b_m1 _ hi]
    by_cases z : n + i < 32
    · rw [if_pos z]; exact h _ (by omega) z
    · rw [if_neg z]; exact h 31 (by omega) (by omega)
/-- a sign extension by u bits keeps x just where the bits from 31 - u on are alike -/
theorem fb_ext (x : Int32) {u n : Nat} (hu : u + n = 31) : ((x <<< (nI u &&& 31)) >>> (nI u &&& 31)) = x ↔ (x >>> (nI n &&& 31)) = 0 ∨ (x >>> (nI n &&& 31)) = -1 := by
  have key : ∀ i, i < 32 → bt ((x <<< (nI u &&& 31)) >>> (nI u &&& 31)) i = if i ≤ n then bt x i else bt x n := by
    intro i hi
    rw [b_sshr u (by omega) _ hi]
    by_cases z : u + i < 32
    · rw [if_pos z, b_shl u (by omega) _ z, if_pos (by omega), decide_eq_true (by omega), Bool.true_and, show u + i - u = i by omega]
    · rw [if_neg z, b_shl u (by omega) x (i := 31) (by omega), if_neg (by omega), decide_eq_true (by omega), Bool.true_and, show 31 - u = n by omega]
  rw [fb_hi0 x (by omega), fb_him1 x (by omega)]
  constructor
  · intro h
    have h' : ∀ i, n ≤ i → i < 32 → bt x i = bt x n := by
      intro i h1 h2
      by_cases z : i = n
      · rw [z]
      · have := key i h2
        rw [h, if_neg (by omega)] at this
        exact this
    cases z : bt x n with
    | false => exact Or.inl fun i h1 h2 => (h' i h1 h2).trans z
    | true => exact Or.inr fun i h1 h2 => (h' i h1 h2).trans z
  · intro h
    apply b_ext
    intro i hi
    rw [key i hi]
    by_cases z : i ≤ n
    · rw [if_pos z]
    · rw [if_neg z]
      rcases h with h | h
      · rw [h n (by omega) (by omega), h i (by omega) hi]
      · rw [h n (by omega) (by omega), h i (by omega) hi]
theorem fb_ushrushr {m n : Nat} (h : m + n < 32) (x : Int32) : (((x.toUInt32 >>> ((nI m).toUInt32 &&& Int32.toUInt32 31)).toInt32).toUInt32 >>> ((nI n).toUInt32 &&& Int32.toUInt32 31)).toInt32 = (x.toUInt32 >>> ((nI (m + n)).toUInt32 &&& Int32.toUInt32 31)).toInt32 := b_ext fun i hi => by
  rw [b_ushr n (by omega), b_ushr m (by omega), b_ushr (m + n) h, Nat.add_assoc]
theorem fb_ushr35 {m n : Nat} (hm : m < 32) (hn : n < 32) (h : 32 ≤ m + n) (x : Int32) : (((x.toUInt32 >>> ((nI m).toUInt32 &&& Int32.toUInt32 31)).toInt32).toUInt32 >>> ((nI n).toUInt32 &&& Int32.toUInt32 31)).toInt32 = 0 := b_ext fun i hi => by
  rw [b_ushr n hn, b_ushr m hm, b_0]
  exact b_big (by omega)
