section
/-! rows pasted from the rows to paste -/
theorem pk_us {f : Nat → Int32} {k : Nat} {x : Int32} : upd f k x k = x := if_pos rfl
theorem pk_un {f : Nat → Int32} {k j : Nat} {x : Int32} (h : j ≠ k) : upd f k x j = f j := if_neg h
theorem pk_sub {a b : Nat} (h : b ≤ a) : nI a - nI b = nI (a - b) := by
  obtain ⟨c, rfl⟩ : ∃ c, a = c + b := ⟨a - b, by omega⟩
  rw [← nI_add, Int32.add_sub_cancel, Nat.add_sub_cancel]
theorem pk_m1 (n : Nat) : nI (n + 1) + (-1) = nI n := by
  rw [← nI_1, Int32.add_assoc, show (1 : Int32) + (-1) = 0 from rfl, Int32.add_zero]
theorem pk_mul (a b : Nat) : nI a * nI b = nI (a * b) := (Int32.ofNat_mul a b).symm
theorem pk_div {a d : Nat} (ha : a < 2 ^ 31) (h0 : 0 < d) (hd : d < 2 ^ 31) : nI a / nI d = nI (a / d) := by
  apply Int32.toInt_inj.mp
  rw [lg_idiv_nonneg (by rw [nI_toInt ha]; omega) (by rw [nI_toInt hd]; omega), nI_toInt ha, nI_toInt hd, nI_toInt (Nat.lt_of_le_of_lt (Nat.div_le_self a d) ha)]
  first | rfl | exact (Int.natCast_ediv _ _).symm
theorem pk_rem {a d : Nat} (ha : a < 2 ^ 31) (h0 : 0 < d) (hd : d < 2 ^ 31) : nI a - nI a / nI d * nI d = nI (a % d) := by
  rw [pk_div ha h0 hd, pk_mul, pk_sub (Nat.div_mul_le_self a d)]
  exact congrArg nI (by have := Nat.div_add_mod' a d; omega)
theorem pk_sub_toInt {a b : Nat} (ha : a < 2 ^ 30) (hb : b < 2 ^ 30) : (nI a - nI b).toInt = (a : Int) - b := by
  rw [Int32.toInt_sub, nI_toInt (by omega), nI_toInt (by omega)]
  exact Int.bmod_eq_of_le (by omega) (by omega)
theorem pk_sneg {a b : Nat} (hb : b < 2 ^ 30) (h : a < b) : nI a - nI b < 0 := by
  rw [Int32.lt_iff_toInt_lt, pk_sub_toInt (by omega) hb, show (0 : Int32).toInt = 0 from by decide]
  omega
theorem pk_ix (x : Int32) {n : Nat} (hn : n < 2 ^ 31) : x < 0 ∨ nI n ≤ x ∨ ∃ j : Nat, j < n ∧ x = nI j := by
  by_cases h : x < 0
  · exact Or.inl h
  · obtain ⟨j, hj, rfl⟩ := nI_of h
    by_cases h2 : j < n
    · exact Or.inr (Or.inr ⟨j, h2, rfl⟩)
    · exact Or.inr (Or.inl (nI_le (by omega) hj))
theorem pk_le {x y : Int32} {A B : Prop} (a b : Nat) (f : a ≤ b → A) (g : b < a → B) (hx : x = nI a := by rfl) (hy : y = nI b := by rfl) (ha : a < 2 ^ 31 := by omega) (hb : b < 2 ^ 31 := by omega) : (x ≤ y → A) ∧ (¬ x ≤ y → B) := by
  subst hx hy
  rw [nI_leI ha hb]
  exact ⟨f, fun z => g (by omega)⟩
theorem pk_lt {x y : Int32} {A B : Prop} (a b : Nat) (f : a < b → A) (g : b ≤ a → B) (hx : x = nI a := by rfl) (hy : y = nI b := by rfl) (ha : a < 2 ^ 31 := by omega) (hb : b < 2 ^ 31 := by omega) : (x < y → A) ∧ (¬ x < y → B) := by
  subst hx hy
  rw [nI_ltI ha hb]
  exact ⟨f, fun z => g (by omega)⟩
theorem pk_eq {x y : Int32} {A B : Prop} (a b : Nat) (f : a = b → A) (g : a ≠ b → B) (hx : x = nI a := by rfl) (hy : y = nI b := by rfl) (ha : a < 2 ^ 31 := by omega) (hb : b < 2 ^ 31 := by omega) : (x = y → A) ∧ (¬ x = y → B) := by
  subst hx hy
  rw [nI_eq ha hb]
  exact ⟨f, g⟩
theorem pk_in {x : Int32} (n N : Nat) (h : n < N) (hx : x = nI n := by rfl) (hN : N < 2 ^ 31 := by omega) : vp_in x N := by
  subst hx
  exact vp_in_nI h hN
theorem pk_cl {x : Int32} (n : Nat) (hx : x = nI n := by rfl) (h : n < 2 ^ 31 := by omega) : x.toNatClampNeg = n := by
  subst hx
  exact nI_clamp h
theorem pk_tn {n : Nat} (h : n < 2 ^ 32) : (nI n).toBitVec.toNat = n := Nat.mod_eq_of_lt h
theorem pk_and (x : Int32) {m : Int32} (k : Nat) (hm : m.toBitVec.toNat = 2 ^ k - 1) : x &&& m = nI (x.toBitVec.toNat % 2 ^ k) := by
  apply Int32.toBitVec_inj.mp
  apply BitVec.eq_of_toNat_eq
  rw [Int32.toBitVec_and, BitVec.toNat_and, hm, Nat.and_two_pow_sub_one_eq_mod]
  show _ = (BitVec.ofNat 32 _).toNat
  rw [BitVec.toNat_ofNat]
  exact (Nat.mod_eq_of_lt (Nat.lt_of_le_of_lt (Nat.mod_le _ _) x.toBitVec.isLt)).symm
theorem pk_andN {n : Nat} (h : n < 2 ^ 32) {m : Int32} (k : Nat) (hm : m.toBitVec.toNat = 2 ^ k - 1) : nI n &&& m = nI (n % 2 ^ k) := by
  rw [pk_and _ k hm, pk_tn h]
theorem pk_andE (x : Int32) {m : Int32} (k : Nat) (hm : m.toBitVec.toNat = 2 ^ k - 1) : ∃ j : Nat, j < 2 ^ k ∧ x &&& m = nI j := ⟨_, Nat.mod_lt _ (Nat.two_pow_pos k), pk_and x k hm⟩
theorem pk_andIn (x : Int32) {m : Int32} (k : Nat) (hm : m.toBitVec.toNat = 2 ^ k - 1) (hk : k ≤ 30) : vp_in (x &&& m) (2 ^ k) := by
  obtain ⟨j, hj, e⟩ := pk_andE x k hm
  rw [e]
  exact vp_in_nI hj (Nat.lt_of_le_of_lt (Nat.pow_le_pow_right (by decide) hk) (by decide))
theorem pk_shl (a s : Int32) (k : Nat) (hs : (s.toBitVec.smod 32).toNat = k) : (a <<< s).toBitVec.toNat = a.toBitVec.toNat * 2 ^ k % 2 ^ 32 := by
  show (a.toBitVec <<< (s.toBitVec.smod 32).toNat).toNat = _
  rw [hs, BitVec.toNat_shiftLeft, Nat.shiftLeft_eq]
theorem pk_shlN {n : Nat} (s : Int32) (k : Nat) (hs : (s.toBitVec.smod 32).toNat = k) (h : n * 2 ^ k < 2 ^ 32) : nI n <<< s = nI (n * 2 ^ k) := by
  apply Int32.toBitVec_inj.mp
  apply BitVec.eq_of_toNat_eq
  have hn : n < 2 ^ 32 := Nat.lt_of_le_of_lt (Nat.le_mul_of_pos_right n (Nat.two_pow_pos k)) h
  rw [pk_shl _ _ k hs, pk_tn hn, pk_tn h, Nat.mod_eq_of_lt h]
theorem pk_shr (a s : Int32) (k : Nat) (hs : (s.toBitVec.smod 32).toNat = k) : (a >>> s).toInt = a.toInt >>> k := by
  show (a.toBitVec.sshiftRight (s.toBitVec.smod 32).toNat).toInt = _
  rw [hs, BitVec.toInt_sshiftRight]
  rfl
theorem pk_shrN {n : Nat} (h : n < 2 ^ 31) (s : Int32) (k : Nat) (hs : (s.toBitVec.smod 32).toNat = k) : nI n >>> s = nI (n / 2 ^ k) := by
  apply Int32.toInt_inj.mp
  have h2 : n / 2 ^ k ≤ n := Nat.div_le_self _ _
  rw [pk_shr _ _ k hs, nI_toInt h, nI_toInt (by omega), Int.shiftRight_eq_div_pow]
  rfl
theorem pk_ushr (x s : Int32) (k : Nat) (hs : ((s.toUInt32 &&& Int32.toUInt32 31).toBitVec % 32).toNat = k) : (x.toUInt32 >>> (s.toUInt32 &&& Int32.toUInt32 31)).toInt32.toBitVec.toNat = x.toBitVec.toNat / 2 ^ k := by
  have e : (x.toUInt32 >>> (s.toUInt32 &&& Int32.toUInt32 31)).toInt32.toBitVec = x.toBitVec >>> k := by
    rw [← hs]
    exact UInt32.toBitVec_shiftRight _ _
  rw [e, BitVec.toNat_ushiftRight, Nat.shiftRight_eq_div_pow]
theorem pk_ushrN {n : Nat} (hn : n < 2 ^ 32) (s : Int32) (k : Nat) (hs : ((s.toUInt32 &&& Int32.toUInt32 31).toBitVec % 32).toNat = k) : ((nI n).toUInt32 >>> (s.toUInt32 &&& Int32.toUInt32 31)).toInt32 = nI (n / 2 ^ k) := by
  apply Int32.toBitVec_inj.mp
  apply BitVec.eq_of_toNat_eq
  rw [pk_ushr _ s k hs, pk_tn hn, pk_tn (Nat.lt_of_le_of_lt (Nat.div_le_self _ _) hn)]
theorem sb_shr0 (x : Int32) : x >>> ((0 : Int32) &&& 31) = x := by
  rw [show ((0 : Int32) &&& 31) = 0 by decide]
  simp
theorem sb_shl0 (x : Int32) : x <<< ((0 : Int32) &&& 31) = x := by
  rw [show ((0 : Int32) &&& 31) = 0 by decide]
  simp
theorem sb_cl0 : (0 : Int32).toNatClampNeg = 0 := by decide
theorem sb_m1 {p : Nat} (h : 0 < p) : nI p + (-1) = nI (p - 1) := by
  obtain ⟨q, rfl⟩ : ∃ q, p = q + 1 := ⟨p - 1, by omega⟩
  exact pk_m1 q
def bt (x : Int32) (i : Nat) : Bool := x.toBitVec.getLsbD i
theorem b_ext {x y : Int32} (h : ∀ i, i < 32 → bt x i = bt y i) : x = y := Int32.toBitVec_inj.mp (BitVec.eq_of_getLsbD_eq (fun i hi => h i hi))
theorem b_or (x y : Int32) (i : Nat) : bt (x ||| y) i = (bt x i || bt y i) := by unfold bt; rw [Int32.toBitVec_or, BitVec.getLsbD_or]
theorem b_and (x y : Int32) (i : Nat) : bt (x &&& y) i = (bt x i && bt y i) := by unfold bt; rw [Int32.toBitVec_and, BitVec.getLsbD_and]
theorem b_xor (x y : Int32) (i : Nat) : bt (x ^^^ y) i = (bt x i ^^ bt y i) := by unfold bt; rw [Int32.toBitVec_xor, BitVec.getLsbD_xor]
theorem b_big {x : Int32} {i : Nat} (h : 32 ≤ i) : bt x i = false := BitVec.getLsbD_of_ge _ _ h
theorem b_255 (i : Nat) : bt 255 i = decide (i < 8) := by
  rcases Nat.lt_or_ge i 32 with h | h
  · exact (by decide +kernel : ∀ i, i < 32 → bt 255 i = decide (i < 8)) i h
  · rw [b_big h, decide_eq_false (by omega)]
theorem b_m1 : ∀ i, i < 32 → bt (-1) i = true := by decide +kernel
theorem b_0 (i : Nat) : bt 0 i = false := BitVec.getLsbD_zero
theorem s_l : ∀ n, n < 32 → ((nI n &&& 31).toBitVec.smod 32).toNat = n := by decide +kernel
theorem s_u : ∀ n, n < 32 → (((nI n).toUInt32 &&& Int32.toUInt32 31).toBitVec % 32).toNat = n := by decide +kernel
theorem b_shl (n : Nat) (hn : n < 32) (x : Int32) {i : Nat} (hi : i < 32) : bt (x <<< (nI n &&& 31)) i = (decide (n ≤ i) && bt x (i - n)) := by
  unfold bt
  rw [Int32.toBitVec_shiftLeft]
  show (x.toBitVec <<< ((nI n &&& 31).toBitVec.smod 32).toNat).getLsbD i = _
  rw [s_l n hn, BitVec.getLsbD_shiftLeft]
  rcases Nat.lt_or_ge i n with h | h
  · simp [h, Nat.not_le.mpr h]
  · simp [hi, h, Nat.not_lt.mpr h]
theorem b_ushr (n : Nat) (hn : n < 32) (x : Int32) (i : Nat) : bt ((x.toUInt32 >>> ((nI n).toUInt32 &&& Int32.toUInt32 31)).toInt32) i = bt x (n + i) := by
  show (x.toUInt32 >>> ((nI n).toUInt32 &&& Int32.toUInt32 31)).toBitVec.getLsbD i = x.toUInt32.toBitVec.getLsbD (n + i)
  rw [UInt32.toBitVec_shiftRight]
  show (x.toUInt32.toBitVec >>> (((nI n).toUInt32 &&& Int32.toUInt32 31).toBitVec % 32).toNat).getLsbD i = _
  rw [s_u n hn, BitVec.getLsbD_ushiftRight]
theorem b_sshr (n : Nat) (hn : n < 32) (x : Int32) {i : Nat} (hi : i < 32) : bt (x >>> (nI n &&& 31)) i = if n + i < 32 then bt x (n + i) else bt x 31 := by
  unfold bt
  rw [Int32.toBitVec_shiftRight]
  show (x.toBitVec.sshiftRight ((nI n &&& 31).toBitVec.smod 32).toNat).getLsbD i = _
  rw [s_l n hn, BitVec.getLsbD_sshiftRight, BitVec.msb_eq_getLsbD_last]
  simp [hi]
theorem nx_and (a b : Nat) : nI a &&& nI b = nI (a &&& b) := by
  apply Int32.toBitVec_inj.1
  show BitVec.ofNat 32 a &&& BitVec.ofNat 32 b = BitVec.ofNat 32 (a &&& b)
  apply BitVec.eq_of_getLsbD_eq
  intro i hi
  simp [hi]
end
section
/-! the items' nesting: the stack of the items that stand begun (opener, its ELSE or 0) before item i -/
abbrev fw_Op (K : Nat → Int32) (i : Nat) : Prop := K i = 4 ∨ K i = 5 ∨ K i = 6
def fw_st (K : Nat → Int32) : Nat → List (Nat × Nat)
  | 0 => []
  | i + 1 =>
    if K i = 4 ∨ K i = 5 ∨ K i = 6 then (i, 0) :: fw_st K i
    else if K i = 12 then (match fw_st K i with | [] => [] | (o, _) :: s => (o, i) :: s)
    else if K i = 13 then (fw_st K i).tail
    else fw_st K i
theorem fw_st_op {K : Nat → Int32} {i : Nat} (h : fw_Op K i) : fw_st K (i + 1) = (i, 0) :: fw_st K i := by
  show (if K i = 4 ∨ K i = 5 ∨ K i = 6 then _ else _) = _
  exact if_pos h
theorem fw_nop {K : Nat → Int32} {i : Nat} {c : Int32} (h : K i = c) (h4 : c ≠ 4) (h5 : c ≠ 5) (h6 : c ≠ 6) : ¬ fw_Op K i := by
  intro z
  rcases z with z | z | z
  · exact h4 (h.symm.trans z)
  · exact h5 (h.symm.trans z)
  · exact h6 (h.symm.trans z)
theorem fw_st_el {K : Nat → Int32} {i o e : Nat} {s : List (Nat × Nat)} (h : K i = 12) (hs : fw_st K i = (o, e) :: s) : fw_st K (i + 1) = (o, i) :: s := by
  show (if K i = 4 ∨ K i = 5 ∨ K i = 6 then _ else if K i = 12 then (match fw_st K i with | [] => [] | (o, _) :: s => (o, i) :: s) else _) = _
  rw [if_neg (fw_nop h (by decide) (by decide) (by decide)), if_pos h, hs]
theorem fw_st_en {K : Nat → Int32} {i o e : Nat} {s : List (Nat × Nat)} (h : K i = 13) (hs : fw_st K i = (o, e) :: s) : fw_st K (i + 1) = s := by
  show (if K i = 4 ∨ K i = 5 ∨ K i = 6 then _ else if K i = 12 then _ else if K i = 13 then (fw_st K i).tail else _) = _
  rw [if_neg (fw_nop h (by decide) (by decide) (by decide)), if_neg (by rw [h]; decide), if_pos h, hs]
  rfl
theorem fw_st_no {K : Nat → Int32} {i : Nat} (h1 : ¬ fw_Op K i) (h2 : ¬ K i = 12) (h3 : ¬ K i = 13) : fw_st K (i + 1) = fw_st K i := by
  show (if K i = 4 ∨ K i = 5 ∨ K i = 6 then _ else if K i = 12 then _ else if K i = 13 then _ else fw_st K i) = _
  rw [if_neg h1, if_neg h2, if_neg h3]
theorem fw_st_congr {K K' : Nat → Int32} : ∀ i, (∀ j, j < i → K j = K' j) → fw_st K i = fw_st K' i := by
  intro i
  induction i with
  | zero => intro _; rfl
  | succ i ih =>
    intro h
    have e := ih (fun j hj => h j (by omega))
    have ek := h i (by omega)
    unfold fw_st
    rw [e, ek]
/-- every item up to N belongs -/
def fw_Wf (K : Nat → Int32) (N : Nat) : Prop := ∀ i, i < N →
  (fw_Op K i → (fw_st K i).length < 4) ∧ (K i = 12 → ∃ o s, fw_st K i = (o, 0) :: s ∧ K o = 5) ∧ (K i = 13 → ∃ o e s, fw_st K i = (o, e) :: s)
theorem fw_Wf_0 (K : Nat → Int32) : fw_Wf K 0 := fun i h => absurd h (Nat.not_lt_zero i)
theorem fw_Wf_le {K : Nat → Int32} {N M : Nat} (h : fw_Wf K N) (hm : M ≤ N) : fw_Wf K M := fun i hi => h i (by omega)
theorem fw_Wf_s {K : Nat → Int32} {N : Nat} (h : fw_Wf K N) (h1 : fw_Op K N → (fw_st K N).length < 4) (h2 : K N = 12 → ∃ o s, fw_st K N = (o, 0) :: s ∧ K o = 5) (h3 : K N = 13 → ∃ o e s, fw_st K N = (o, e) :: s) : fw_Wf K (N + 1) := by
  intro i hi
  rcases Nat.lt_or_ge i N with z | z
  · exact h i z
  · have e : i = N := by omega
    subst e
    exact ⟨h1, h2, h3⟩
theorem fw_hd {K : Nat → Int32} {N : Nat} (W : fw_Wf K N) : ∀ i, i ≤ N → ∀ o e s, fw_st K i = (o, e) :: s → o < i ∧ fw_Op K o ∧ (e = 0 ∨ (o < e ∧ e < i ∧ K e = 12 ∧ K o = 5 ∧ fw_st K e = (o, 0) :: fw_st K o)) ∧ s = fw_st K o := by
  intro i
  induction i using Nat.strongRecOn with
  | ind i ih =>
    intro hi o e s h
    cases i with
    | zero => cases h
    | succ i =>
      by_cases h1 : fw_Op K i
      · rw [fw_st_op h1] at h
        cases h
        exact ⟨by omega, h1, Or.inl rfl, rfl⟩
      · by_cases h2 : K i = 12
        · obtain ⟨o', s', e1, e2⟩ := (W i (by omega)).2.1 h2
          rw [fw_st_el h2 e1] at h
          injection h with q1 q2
          injection q1 with q3 q4
          rw [q3, q2] at e1
          rw [q3] at e2
          obtain ⟨a, b, c, d⟩ := ih i (by omega) (by omega) o 0 s e1
          rw [← q4]
          exact ⟨by omega, b, Or.inr ⟨a, by omega, h2, e2, by rw [← d]; exact e1⟩, d⟩
        · by_cases h3 : K i = 13
          · obtain ⟨o', e', s', e1⟩ := (W i (by omega)).2.2 h3
            rw [fw_st_en h3 e1] at h
            obtain ⟨a, b, c, d⟩ := ih i (by omega) (by omega) o' e' s' e1
            rw [d] at h
            obtain ⟨a2, b2, c2, d2⟩ := ih o' (by omega) (by omega) o e s h
            refine ⟨by omega, b2, ?_, d2⟩
            rcases c2 with c2 | c2
            · exact Or.inl c2
            · exact Or.inr ⟨c2.1, by omega, c2.2.2⟩
          · rw [fw_st_no h1 h2 h3] at h
            obtain ⟨a2, b2, c2, d2⟩ := ih i (by omega) (by omega) o e s h
            refine ⟨by omega, b2, ?_, d2⟩
            rcases c2 with c2 | c2
            · exact Or.inl c2
            · exact Or.inr ⟨c2.1, by omega, c2.2.2⟩
theorem fw_mem_lt {K : Nat → Int32} {N : Nat} (W : fw_Wf K N) : ∀ i, i ≤ N → ∀ o e, (o, e) ∈ fw_st K i → o < i := by
  intro i
  induction i using Nat.strongRecOn with
  | ind i ih =>
    intro hi o e h
    cases hs : fw_st K i with
    | nil => rw [hs] at h; cases h
    | cons x s =>
      obtain ⟨o1, e1⟩ := x
      obtain ⟨a, b, c, d⟩ := fw_hd W i hi o1 e1 s hs
      rw [hs] at h
      rcases List.mem_cons.mp h with z | z
      · cases z; exact a
      · rw [d] at z
        have := ih o1 a (by omega) o e z
        omega
theorem fw_mem_op {K : Nat → Int32} {N : Nat} (W : fw_Wf K N) : ∀ i, i ≤ N → ∀ o e, (o, e) ∈ fw_st K i → fw_Op K o ∧ (e = 0 ∨ (e < i ∧ K e = 12 ∧ fw_st K e = (o, 0) :: fw_st K o)) := by
  intro i
  induction i using Nat.strongRecOn with
  | ind i ih =>
    intro hi o e h
    cases hs : fw_st K i with
    | nil => rw [hs] at h; cases h
    | cons x s =>
      obtain ⟨o1, e1⟩ := x
      obtain ⟨a, b, c, d⟩ := fw_hd W i hi o1 e1 s hs
      rw [hs] at h
      rcases List.mem_cons.mp h with z | z
      · cases z
        refine ⟨b, ?_⟩
        rcases c with c | c
        · exact Or.inl c
        · exact Or.inr ⟨c.2.1, c.2.2.1, c.2.2.2.2⟩
      · rw [d] at z
        obtain ⟨p, q⟩ := ih o1 a (by omega) o e z
        refine ⟨p, ?_⟩
        rcases q with q | q
        · exact Or.inl q
        · exact Or.inr ⟨by omega, q.2⟩
theorem fw_sub {K : Nat → Int32} {i o e : Nat} (h : (o, e) ∈ fw_st K (i + 1)) : o = i ∨ ∃ e', (o, e') ∈ fw_st K i := by
  by_cases h1 : fw_Op K i
  · rw [fw_st_op h1] at h
    rcases List.mem_cons.mp h with z | z
    · cases z; exact Or.inl rfl
    · exact Or.inr ⟨e, z⟩
  · by_cases h2 : K i = 12
    · cases hs : fw_st K i with
      | nil =>
        have : fw_st K (i + 1) = [] := by
          show (if K i = 4 ∨ K i = 5 ∨ K i = 6 then _ else if K i = 12 then (match fw_st K i with | [] => [] | (o, _) :: s => (o, i) :: s) else _) = _
          rw [if_neg h1, if_pos h2, hs]
        rw [this] at h
        cases h
      | cons x s =>
        obtain ⟨o1, e1⟩ := x
        rw [fw_st_el h2 hs] at h
        rcases List.mem_cons.mp h with z | z
        · cases z
          exact Or.inr ⟨e1, List.mem_cons.mpr (Or.inl rfl)⟩
        · exact Or.inr ⟨e, List.mem_cons.mpr (Or.inr z)⟩
    · by_cases h3 : K i = 13
      · have : fw_st K (i + 1) = (fw_st K i).tail := by
          show (if K i = 4 ∨ K i = 5 ∨ K i = 6 then _ else if K i = 12 then _ else if K i = 13 then (fw_st K i).tail else _) = _
          rw [if_neg h1, if_neg h2, if_pos h3]
        rw [this] at h
        exact Or.inr ⟨e, List.mem_of_mem_tail h⟩
      · rw [fw_st_no h1 h2 h3] at h
        exact Or.inr ⟨e, h⟩
/-- an opener whose END has come stands no more -/
theorem fw_shut {K : Nat → Int32} {N : Nat} (W : fw_Wf K N) {j o e : Nat} {s : List (Nat × Nat)} (hj : j < N) (hk : K j = 13) (hs : fw_st K j = (o, e) :: s) : ∀ d e', (o, e') ∉ fw_st K (j + 1 + d) := by
  obtain ⟨a, b, c, d0⟩ := fw_hd W j (by omega) o e s hs
  intro d
  induction d with
  | zero =>
    intro e' h
    rw [Nat.add_zero, fw_st_en hk hs, d0] at h
    have := fw_mem_lt W o (by omega) o e' h
    omega
  | succ d ih =>
    intro e' h
    rcases fw_sub (i := j + 1 + d) h with z | ⟨e2, z⟩
    · omega
    · exact ih e2 z
/-- the mates: M at an END is the opener; at the opener its ELSE, or the END; at the ELSE the END -/
def fw_Mt (K M : Nat → Int32) (N : Nat) : Prop := ∀ i, i < N → K i = 13 → ∀ o e s, fw_st K i = (o, e) :: s → M i = nI o ∧ (e = 0 → M o = nI i) ∧ (e ≠ 0 → M o = nI e ∧ M e = nI i)
def fw_Mo (K M : Nat → Int32) (N : Nat) : Prop := ∀ o e, (o, e) ∈ fw_st K N → (e = 0 → M o = -1) ∧ (e ≠ 0 → M o = nI e)
def fw_Good (K M : Nat → Int32) (N : Nat) : Prop := fw_Wf K N ∧ fw_st K N = [] ∧ fw_Mt K M N
theorem fw_Good_congr {K K' M M' : Nat → Int32} {N : Nat} (h : fw_Good K M N) (hK : ∀ j, j < N → K j = K' j) (hM : ∀ j, j < N → M j = M' j) : fw_Good K' M' N := by
  obtain ⟨W, E, T⟩ := h
  have hst : ∀ i, i ≤ N → fw_st K' i = fw_st K i := fun i hi => (fw_st_congr i (fun j hj => hK j (by omega))).symm
  refine ⟨?_, by rw [hst N (by omega)]; exact E, ?_⟩
  · intro i hi
    obtain ⟨w1, w2, w3⟩ := W i hi
    unfold fw_Op at *
    rw [hst i (by omega), ← hK i hi]
    refine ⟨w1, ?_, w3⟩
    intro z
    obtain ⟨o, s, q1, q2⟩ := w2 z
    have := (fw_hd W i (by omega) o 0 s q1).1
    exact ⟨o, s, q1, by rw [← hK o (by omega)]; exact q2⟩
  · intro i hi hk o e s hs
    rw [hst i (by omega)] at hs
    rw [← hK i hi] at hk
    obtain ⟨t1, t2, t3⟩ := T i hi hk o e s hs
    obtain ⟨a, b, c, d⟩ := fw_hd W i (by omega) o e s hs
    rw [← hM i hi, ← hM o (by omega)]
    refine ⟨t1, t2, ?_⟩
    intro z
    have he : e < N := by
      rcases c with c | c
      · exact absurd c z
      · omega
    rw [← hM e he]
    exact t3 z
theorem fw_ne {K : Nat → Int32} {i j : Nat} {c d : Int32} (h : K i = c) (h' : K j = d) (n : c ≠ d) : i ≠ j := by
  intro z
  subst z
  exact n (h.symm.trans h')
theorem fw_neO {K : Nat → Int32} {i j : Nat} {c : Int32} (h : fw_Op K i) (h' : K j = c) (h4 : c ≠ 4) (h5 : c ≠ 5) (h6 : c ≠ 6) : i ≠ j := by
  intro z
  subst z
  exact fw_nop h' h4 h5 h6 h
/-- mates after an opener -/
theorem fw_M_op {K M : Nat → Int32} {N : Nat} (W : fw_Wf K N) (T : fw_Mt K M N) (O : fw_Mo K M N) (hk : fw_Op K N) : fw_Mt K (upd M N (-1)) (N + 1) ∧ fw_Mo K (upd M N (-1)) (N + 1) := by
  constructor
  · intro i hi hi13 o e s hs
    have hne : N ≠ i := fw_neO hk hi13 (by decide) (by decide) (by decide)
    have hi' : i < N := by omega
    obtain ⟨a, b, c, d⟩ := fw_hd W i (by omega) o e s hs
    obtain ⟨t1, t2, t3⟩ := T i hi' hi13 o e s hs
    refine ⟨by rw [pk_un (by omega)]; exact t1, fun z => by rw [pk_un (by omega)]; exact t2 z, fun z => ?_⟩
    have he : e < N := by
      rcases c with c | c
      · exact absurd c z
      · omega
    rw [pk_un (by omega), pk_un (by omega)]
    exact t3 z
  · intro o e h
    rw [fw_st_op hk] at h
    rcases List.mem_cons.mp h with z | z
    · cases z
      exact ⟨fun _ => pk_us, fun z => absurd rfl z⟩
    · have := fw_mem_lt W N (by omega) o e z
      rw [pk_un (by omega)]
      exact O o e z
/-- mates after a plain item -/
theorem fw_M_no {K M : Nat → Int32} {N : Nat} (T : fw_Mt K M N) (O : fw_Mo K M N) (h1 : ¬ fw_Op K N) (h2 : ¬ K N = 12) (h3 : ¬ K N = 13) : fw_Mt K M (N + 1) ∧ fw_Mo K M (N + 1) := by
  constructor
  · intro i hi hi13 o e s hs
    have hne : i ≠ N := by
      intro z
      subst z
      exact h3 hi13
    exact T i (by omega) hi13 o e s hs
  · intro o e h
    rw [fw_st_no h1 h2 h3] at h
    exact O o e h
/-- mates after an ELSE -/
theorem fw_M_el {K M : Nat → Int32} {N o0 : Nat} {s0 : List (Nat × Nat)} (W : fw_Wf K N) (T : fw_Mt K M N) (O : fw_Mo K M N) (hk : K N = 12) (hs0 : fw_st K N = (o0, 0) :: s0) : fw_Mt K (upd M o0 (nI N)) (N + 1) ∧ fw_Mo K (upd M o0 (nI N)) (N + 1) := by
  obtain ⟨a0, b0, c0, d0⟩ := fw_hd W N (by omega) o0 0 s0 hs0
  constructor
  · intro i hi hi13 o e s hs
    have hne : N ≠ i := fw_ne hk hi13 (by decide)
    have hi' : i < N := by omega
    obtain ⟨a, b, c, d⟩ := fw_hd W i (by omega) o e s hs
    obtain ⟨t1, t2, t3⟩ := T i hi' hi13 o e s hs
    have n1 : i ≠ o0 := fun z => fw_neO b0 hi13 (by decide) (by decide) (by decide) z.symm
    have n2 : o ≠ o0 := by
      intro z
      have := fw_shut W hi' hi13 hs (N - (i + 1)) 0
      rw [show i + 1 + (N - (i + 1)) = N by omega, hs0, z] at this
      exact this (List.mem_cons.mpr (Or.inl rfl))
    refine ⟨by rw [pk_un n1]; exact t1, fun z => by rw [pk_un n2]; exact t2 z, fun z => ?_⟩
    have n3 : e ≠ o0 := by
      rcases c with c | c
      · exact absurd c z
      · exact fun y => fw_neO b0 c.2.2.1 (by decide) (by decide) (by decide) y.symm
    rw [pk_un n2, pk_un n3]
    exact t3 z
  · intro o e h
    rw [fw_st_el hk hs0] at h
    rcases List.mem_cons.mp h with z | z
    · cases z
      exact ⟨fun z => by omega, fun _ => pk_us⟩
    · have z' := z
      rw [d0] at z'
      have := fw_mem_lt W o0 (by omega) o e z'
      rw [pk_un (by omega)]
      exact O o e (by rw [hs0]; exact List.mem_cons.mpr (Or.inr z))
/-- mates after an END: m is where the first store goes (the opener, or its ELSE) -/
theorem fw_M_en {K M : Nat → Int32} {N o0 e0 m : Nat} {s0 : List (Nat × Nat)} (W : fw_Wf K N) (T : fw_Mt K M N) (O : fw_Mo K M N) (hk : K N = 13) (hs0 : fw_st K N = (o0, e0) :: s0) (hm0 : e0 = 0 → m = o0) (hm1 : e0 ≠ 0 → m = e0) : fw_Mt K (upd (upd M m (nI N)) N (nI o0)) (N + 1) ∧ fw_Mo K (upd (upd M m (nI N)) N (nI o0)) (N + 1) := by
  obtain ⟨a0, b0, c0, d0⟩ := fw_hd W N (by omega) o0 e0 s0 hs0
  have hmN : m < N := by
    rcases c0 with c0 | c0
    · rw [hm0 c0]; exact a0
    · rw [hm1 (by omega)]; exact c0.2.1
  constructor
  · intro i hi hi13 o e s hs
    rcases Nat.lt_or_ge i N with hi' | hi'
    · obtain ⟨a, b, c, d⟩ := fw_hd W i (by omega) o e s hs
      obtain ⟨t1, t2, t3⟩ := T i hi' hi13 o e s hs
      have no : o ≠ o0 := by
        intro z
        have := fw_shut W hi' hi13 hs (N - (i + 1)) e0
        rw [show i + 1 + (N - (i + 1)) = N by omega, hs0, z] at this
        exact this (List.mem_cons.mpr (Or.inl rfl))
      have n1 : i ≠ m := by
        rcases c0 with c0 | c0
        · rw [hm0 c0]; exact fun z => fw_neO b0 hi13 (by decide) (by decide) (by decide) z.symm
        · rw [hm1 (by omega)]; exact fw_ne hi13 c0.2.2.1 (by decide)
      have n2 : o ≠ m := by
        rcases c0 with c0 | c0
        · rw [hm0 c0]; exact no
        · rw [hm1 (by omega)]; exact fw_neO b c0.2.2.1 (by decide) (by decide) (by decide)
      refine ⟨by rw [pk_un (by omega), pk_un n1]; exact t1, fun z => by rw [pk_un (by omega), pk_un n2]; exact t2 z, fun z => ?_⟩
      rcases c with c | c
      · exact absurd c z
      · have n3 : e ≠ m := by
          rcases c0 with c0 | c0
          · rw [hm0 c0]; exact fun y => fw_neO b0 c.2.2.1 (by decide) (by decide) (by decide) y.symm
          · rw [hm1 (by omega)]
            intro y
            have q := c.2.2.2.2.symm.trans ((congrArg (fw_st K) y).trans c0.2.2.2.2)
            injection q with q1 q2
            injection q1 with q3 q4
            exact no q3
        rw [pk_un (by omega), pk_un n2, pk_un (by omega), pk_un n3]
        exact t3 z
    · have e1 : i = N := by omega
      rw [e1] at hs
      have q := hs.symm.trans hs0
      injection q with q1 q2
      injection q1 with q3 q4
      rw [e1, q3, q4]
      refine ⟨pk_us, fun z => ?_, fun z => ?_⟩
      · rw [pk_un (by omega), hm0 z, pk_us]
      · have hme := hm1 z
        have h1 : (o0, e0) ∈ fw_st K N := by rw [hs0]; exact List.mem_cons.mpr (Or.inl rfl)
        have h2 := (O o0 e0 h1).2 z
        rcases c0 with c0 | c0
        · exact absurd c0 z
        · rw [pk_un (by omega), pk_un (by omega), pk_un (by omega), hme, pk_us]
          exact ⟨h2, rfl⟩
  · intro o e h
    rw [fw_st_en hk hs0] at h
    have h' := h
    rw [d0] at h'
    have hlt := fw_mem_lt W o0 (by omega) o e h'
    obtain ⟨p, q⟩ := fw_mem_op W o0 (by omega) o e h'
    have nm : o ≠ m := by
      rcases c0 with c0 | c0
      · rw [hm0 c0]; omega
      · rw [hm1 (by omega)]; exact fw_neO p c0.2.2.1 (by decide) (by decide) (by decide)
    rw [pk_un (by omega), pk_un nm]
    exact O o e (by rw [hs0]; exact List.mem_cons.mpr (Or.inr h))
end
section
/-! one step of a scan, lengths, sets as bits, the run's stack -/
theorem fw_step {K : Nat → Int32} {N : Nat} (W : fw_Wf K N) {j o e : Nat} {u s : List (Nat × Nat)} (hj : j < N) (h : fw_st K j = u ++ (o, e) :: s) :
    (K j = 13 ∧ u = []) ∨ (K j = 13 ∧ ∃ x u', u = x :: u' ∧ fw_st K (j + 1) = u' ++ (o, e) :: s) ∨ (fw_Op K j ∧ fw_st K (j + 1) = ((j, 0) :: u) ++ (o, e) :: s) ∨ (K j = 12 ∧ u = [] ∧ e = 0 ∧ fw_st K (j + 1) = [] ++ (o, j) :: s) ∨ (K j = 12 ∧ ∃ x x' u', u = x :: u' ∧ fw_st K (j + 1) = (x' :: u') ++ (o, e) :: s) ∨ (¬ fw_Op K j ∧ K j ≠ 12 ∧ K j ≠ 13 ∧ fw_st K (j + 1) = u ++ (o, e) :: s) := by
  by_cases h1 : fw_Op K j
  · exact Or.inr (Or.inr (Or.inl ⟨h1, (fw_st_op h1).trans (congrArg (List.cons (j, 0)) h)⟩))
  · by_cases h2 : K j = 12
    · obtain ⟨o', s', e1, e2⟩ := (W j hj).2.1 h2
      cases u with
      | nil =>
        rw [List.nil_append] at h
        have q := h.symm.trans e1
        cases q
        exact Or.inr (Or.inr (Or.inr (Or.inl ⟨h2, rfl, rfl, fw_st_el h2 e1⟩)))
      | cons x u' =>
        obtain ⟨o1, x1⟩ := x
        exact Or.inr (Or.inr (Or.inr (Or.inr (Or.inl ⟨h2, (o1, x1), (o1, j), u', rfl, fw_st_el h2 h⟩))))
    · by_cases h3 : K j = 13
      · cases u with
        | nil => exact Or.inl ⟨h3, rfl⟩
        | cons x u' =>
          obtain ⟨o1, x1⟩ := x
          exact Or.inr (Or.inl ⟨h3, (o1, x1), u', rfl, fw_st_en h3 h⟩)
      · exact Or.inr (Or.inr (Or.inr (Or.inr (Or.inr ⟨h1, h2, h3, by rw [fw_st_no h1 h2 h3]; exact h⟩))))
theorem fw_scan {K : Nat → Int32} {N : Nat} (W : fw_Wf K N) (E : fw_st K N = []) : ∀ m j o e u s, N - j = m → j ≤ N → fw_st K j = u ++ (o, e) :: s → ∃ t e', j ≤ t ∧ t < N ∧ K t = 13 ∧ fw_st K t = (o, e') :: s ∧ (e ≠ 0 → e' = e) := by
  intro m
  induction m with
  | zero =>
    intro j o e u s hm hj h
    have ej : j = N := by omega
    subst ej
    rw [E] at h
    cases u with
    | nil => cases h
    | cons x u => cases h
  | succ m ih =>
    intro j o e u s hm hj h
    rcases fw_step W (by omega) h with z | z | z | z | z | z
    · obtain ⟨z1, z2⟩ := z
      subst z2
      exact ⟨j, e, by omega, by omega, z1, h, fun _ => rfl⟩
    · obtain ⟨z1, x, u', z2, z3⟩ := z
      obtain ⟨t, e', a, b, c, d, f⟩ := ih (j + 1) o e u' s (by omega) (by omega) z3
      exact ⟨t, e', by omega, b, c, d, f⟩
    · obtain ⟨z1, z3⟩ := z
      obtain ⟨t, e', a, b, c, d, f⟩ := ih (j + 1) o e _ s (by omega) (by omega) z3
      exact ⟨t, e', by omega, b, c, d, f⟩
    · obtain ⟨z1, z2, z4, z3⟩ := z
      obtain ⟨t, e', a, b, c, d, f⟩ := ih (j + 1) o j _ s (by omega) (by omega) z3
      exact ⟨t, e', by omega, b, c, d, fun y => absurd z4 y⟩
    · obtain ⟨z1, x, x', u', z2, z3⟩ := z
      obtain ⟨t, e', a, b, c, d, f⟩ := ih (j + 1) o e _ s (by omega) (by omega) z3
      exact ⟨t, e', by omega, b, c, d, f⟩
    · obtain ⟨z1, z2, z4, z3⟩ := z
      obtain ⟨t, e', a, b, c, d, f⟩ := ih (j + 1) o e _ s (by omega) (by omega) z3
      exact ⟨t, e', by omega, b, c, d, f⟩
theorem fw_len {K : Nat → Int32} {N : Nat} (W : fw_Wf K N) : ∀ i, i ≤ N → (fw_st K i).length ≤ 4 := by
  intro i
  induction i with
  | zero => intro _; exact Nat.zero_le _
  | succ i ih =>
    intro hi
    have l := ih (by omega)
    by_cases h1 : fw_Op K i
    · rw [fw_st_op h1]
      exact (W i (by omega)).1 h1
    · by_cases h2 : K i = 12
      · obtain ⟨o', s', e1, e2⟩ := (W i (by omega)).2.1 h2
        rw [fw_st_el h2 e1]
        rw [e1] at l
        exact l
      · by_cases h3 : K i = 13
        · obtain ⟨o', e', s', e1⟩ := (W i (by omega)).2.2 h3
          rw [fw_st_en h3 e1]
          rw [e1] at l
          exact Nat.le_of_succ_le l
        · rw [fw_st_no h1 h2 h3]
          exact l
/-- what M says of an ELSE: its END, and that END's opener -/
theorem fw_G_el {K M : Nat → Int32} {N i o e : Nat} {s : List (Nat × Nat)} (G : fw_Good K M N) (hi : i < N) (hk : K i = 12) (hs : fw_st K i = (o, e) :: s) : ∃ t, i < t ∧ t < N ∧ K t = 13 ∧ fw_st K t = (o, i) :: s ∧ M i = nI t ∧ M t = nI o ∧ M o = nI i := by
  obtain ⟨W, E, T⟩ := G
  obtain ⟨o', s', q1, q2⟩ := (W i hi).2.1 hk
  have q := hs.symm.trans q1
  cases q
  have a := (fw_hd W i (by omega) o 0 s hs).1
  obtain ⟨t, e', b, c, d, f, g⟩ := fw_scan W E _ (i + 1) o i [] s rfl (by omega) (fw_st_el hk hs)
  rw [g (by omega)] at f
  obtain ⟨t1, t2, t3⟩ := T t c d o i s f
  obtain ⟨t4, t5⟩ := t3 (by omega)
  exact ⟨t, by omega, c, d, f, t5, t1, t4⟩
/-- what M says of an opener: its ELSE or its END -/
theorem fw_G_op {K M : Nat → Int32} {N i : Nat} (G : fw_Good K M N) (hi : i < N) (hk : fw_Op K i) : ∃ t e, i < t ∧ t < N ∧ K t = 13 ∧ fw_st K t = (i, e) :: fw_st K i ∧ M t = nI i ∧ (e = 0 → M i = nI t) ∧ (e ≠ 0 → M i = nI e ∧ M e = nI t ∧ i < e ∧ e < t ∧ K e = 12 ∧ K i = 5 ∧ fw_st K e = (i, 0) :: fw_st K i) := by
  obtain ⟨W, E, T⟩ := G
  obtain ⟨t, e', b, c, d, f, g⟩ := fw_scan W E _ (i + 1) i 0 [] (fw_st K i) rfl (by omega) (fw_st_op hk)
  obtain ⟨t1, t2, t3⟩ := T t c d i e' _ f
  obtain ⟨h1, h2, h3, h4⟩ := fw_hd W t (by omega) i e' _ f
  refine ⟨t, e', by omega, c, d, f, t1, t2, fun z => ?_⟩
  rcases h3 with h3 | h3
  · exact absurd h3 z
  · exact ⟨(t3 z).1, (t3 z).2, h3.1, h3.2.1, h3.2.2.1, h3.2.2.2.1, h3.2.2.2.2⟩
/-! sets of variables as bits -/
def fw_ss (s t : Int32) : Prop := ∀ i, i < 32 → bt s i = true → bt t i = true
theorem fw_ss_r (s : Int32) : fw_ss s s := fun _ _ h => h
theorem fw_ss_t {s t w : Int32} (h : fw_ss s t) (h' : fw_ss t w) : fw_ss s w := fun i hi z => h' i hi (h i hi z)
theorem fw_ss_o {s t : Int32} (x : Int32) (h : fw_ss s t) : fw_ss s (t ||| x) := fun i hi z => by rw [b_or, h i hi z]; rfl
theorem fw_ss_a {s t w : Int32} (h : fw_ss s t) (h' : fw_ss s w) : fw_ss s (t &&& w) := fun i hi z => by rw [b_and, h i hi z, h' i hi z]; rfl
theorem fw_ss_e {s t : Int32} (h : fw_ss s t) : t &&& s = s := b_ext fun i hi => by
  rw [b_and]
  have := h i hi
  cases z : bt s i with
  | false => exact Bool.and_false _
  | true => rw [this z]; rfl
def fw_U (K sA op se th : Nat → Int32) : Int32 → List (Nat × Nat) → Prop
  | _, [] => True
  | x, (o, e) :: s => se s.length = sA o ∧ (e = 0 → op s.length = K o) ∧ (e ≠ 0 → op s.length = 12 ∧ th s.length = sA e ∧ fw_ss (sA o) (sA e)) ∧ fw_ss (sA o) x ∧ fw_U K sA op se th (sA o) s
theorem fw_U_m {K sA op se th : Nat → Int32} {x y : Int32} {s : List (Nat × Nat)} (h : fw_U K sA op se th x s) (hx : fw_ss x y) : fw_U K sA op se th y s := by
  cases s with
  | nil => trivial
  | cons a s =>
    obtain ⟨o, e⟩ := a
    obtain ⟨p1, p2, p3, p4, p5⟩ := h
    exact ⟨p1, p2, p3, fw_ss_t p4 hx, p5⟩
theorem fw_U_fr {K sA op se th sA' op' se' th' : Nat → Int32} : ∀ (s : List (Nat × Nat)) (x : Int32), fw_U K sA op se th x s → (∀ o e, (o, e) ∈ s → sA' o = sA o ∧ (e ≠ 0 → sA' e = sA e)) → (∀ d, d < s.length → op' d = op d ∧ se' d = se d ∧ th' d = th d) → fw_U K sA' op' se' th' x s := by
  intro s
  induction s with
  | nil => intro x _ _ _; trivial
  | cons a s ih =>
    intro x h h1 h2
    obtain ⟨o, e⟩ := a
    obtain ⟨p1, p2, p3, p4, p5⟩ := h
    obtain ⟨m1, m2⟩ := h1 o e (List.mem_cons.mpr (Or.inl rfl))
    obtain ⟨d1, d2, d3⟩ := h2 s.length (Nat.lt_succ_self _)
    refine ⟨by rw [d2, m1]; exact p1, fun z => by rw [d1]; exact p2 z, fun z => ?_, by rw [m1]; exact p4, ?_⟩
    · rw [d1, d3, m1, m2 z]
      exact p3 z
    · rw [m1]
      exact ih (sA o) p5 (fun o' e' hm => h1 o' e' (List.mem_cons.mpr (Or.inr hm))) (fun d hd => h2 d (Nat.lt_succ_of_lt hd))
/-! the run's stack: X's rounds and outer limits by item, of the reference its two arrays by level; lim the limit, S the rounds left -/
def fw_R (K rl ol op nu : Nat → Int32) (base : Nat) : Nat → Nat → List (Nat × Nat) → Prop
  | lim, S, [] => lim = base ∧ S = 0
  | lim, S, (o, _) :: s => op s.length = nI o ∧
      ((K o = 4 ∧ ∃ x S', 1 ≤ x ∧ x ≤ 32 ∧ nu s.length = nI x ∧ rl o = nI x ∧ S = S' + x ∧ fw_R K rl ol op nu base lim S' s)
      ∨ (K o = 5 ∧ fw_R K rl ol op nu base lim S s)
      ∨ (K o = 6 ∧ nu s.length = nI lim ∧ ∃ lim', lim ≤ lim' ∧ ol o = nI lim' ∧ fw_R K rl ol op nu base lim' S s))
theorem fw_R_le {K rl ol op nu : Nat → Int32} {base : Nat} : ∀ (s : List (Nat × Nat)) (lim S : Nat), fw_R K rl ol op nu base lim S s → lim ≤ base := by
  intro s
  induction s with
  | nil =>
    intro lim S h
    obtain ⟨h1, _⟩ := h
    exact Nat.le_of_eq h1
  | cons a s ih =>
    intro lim S h
    obtain ⟨o, e⟩ := a
    obtain ⟨_, h⟩ := h
    rcases h with z | z | z
    · obtain ⟨_, x, S', _, _, _, _, _, z⟩ := z
      exact ih lim S' z
    · exact ih lim S z.2
    · obtain ⟨_, _, lim', z1, _, z2⟩ := z
      exact Nat.le_trans z1 (ih lim' S z2)
theorem fw_R_fr {K rl ol op nu rl' ol' op' nu' : Nat → Int32} {base : Nat} : ∀ (s : List (Nat × Nat)) (lim S : Nat), fw_R K rl ol op nu base lim S s → (∀ o e, (o, e) ∈ s → rl' o = rl o ∧ ol' o = ol o) → (∀ d, d < s.length → op' d = op d ∧ nu' d = nu d) → fw_R K rl' ol' op' nu' base lim S s := by
  intro s
  induction s with
  | nil => intro lim S h _ _; exact h
  | cons a s ih =>
    intro lim S h h1 h2
    obtain ⟨o, e⟩ := a
    obtain ⟨m1, m2⟩ := h1 o e (List.mem_cons.mpr (Or.inl rfl))
    obtain ⟨d1, d2⟩ := h2 s.length (Nat.lt_succ_self _)
    have h1' : ∀ o e, (o, e) ∈ s → rl' o = rl o ∧ ol' o = ol o := fun o' e' hm => h1 o' e' (List.mem_cons.mpr (Or.inr hm))
    have h2' : ∀ d, d < s.length → op' d = op d ∧ nu' d = nu d := fun d hd => h2 d (Nat.lt_succ_of_lt hd)
    obtain ⟨h0, h⟩ := h
    refine ⟨by rw [d1]; exact h0, ?_⟩
    rcases h with z | z | z
    · obtain ⟨z0, x, S', z1, z2, z3, z4, z5, z6⟩ := z
      exact Or.inl ⟨z0, x, S', z1, z2, by rw [d2]; exact z3, by rw [m1]; exact z4, z5, ih lim S' z6 h1' h2'⟩
    · exact Or.inr (Or.inl ⟨z.1, ih lim S z.2 h1' h2'⟩)
    · obtain ⟨z0, z1, lim', z2, z3, z4⟩ := z
      exact Or.inr (Or.inr ⟨z0, by rw [d2]; exact z1, lim', z2, by rw [m2]; exact z3, ih lim' S z4 h1' h2'⟩)
/-- the copy of the first i -/
def fw_cp (a b : Nat → Int32) (i : Nat) : Nat → Int32 := fun j => if j < i then a j else b j
theorem fw_cp_0 (a b : Nat → Int32) : fw_cp a b 0 = b := funext fun j => if_neg (Nat.not_lt_zero j)
theorem fw_cp_s (a b : Nat → Int32) (i : Nat) : upd (fw_cp a b i) i (a i) = fw_cp a b (i + 1) := funext fun j => by
  unfold upd fw_cp
  by_cases h : j = i
  · subst h
    rw [if_pos rfl, if_pos (Nat.lt_succ_self _)]
  · rw [if_neg h]
    by_cases h2 : j < i
    · rw [if_pos h2, if_pos (by omega)]
    · rw [if_neg h2, if_neg (by omega)]
theorem fw_cp_lt {a b : Nat → Int32} {i j : Nat} (h : j < i) : fw_cp a b i j = a j := if_pos h
section
variable {K rl ol op nu : Nat → Int32} {base lim S o e : Nat} {s : List (Nat × Nat)}
theorem fw_R_keep {rl' ol' op' nu' : Nat → Int32} (h : fw_R K rl ol op nu base lim S s) (hm : ∀ o' e', (o', e') ∈ s → o' < o) (h1 : ∀ j, j ≠ o → rl' j = rl j) (h2 : ∀ j, j ≠ o → ol' j = ol j) (h3 : ∀ d, d ≠ s.length → op' d = op d) (h4 : ∀ d, d ≠ s.length → nu' d = nu d) : fw_R K rl' ol' op' nu' base lim S s :=
  fw_R_fr s lim S h (fun o' e' hh => have := hm o' e' hh; ⟨h1 o' (by omega), h2 o' (by omega)⟩) (fun d hd => ⟨h3 d (by omega), h4 d (by omega)⟩)
theorem fw_un (f : Nat → Int32) (k : Nat) (x : Int32) : ∀ j, j ≠ k → upd f k x j = f j := fun _ h => pk_un h
theorem fw_id (f : Nat → Int32) (k : Nat) : ∀ j, j ≠ k → f j = f j := fun _ _ => rfl
theorem fw_R_p4 {x : Nat} (h : fw_R K rl ol op nu base lim S s) (hm : ∀ o' e', (o', e') ∈ s → o' < o) (hk : K o = 4) (h1 : 1 ≤ x) (h2 : x ≤ 32) : fw_R K (upd rl o (nI x)) ol (upd op s.length (nI o)) (upd nu s.length (nI x)) base lim (S + x) ((o, e) :: s) :=
  ⟨pk_us, Or.inl ⟨hk, x, S, h1, h2, pk_us, pk_us, rfl, fw_R_keep h hm (fw_un _ _ _) (fw_id _ _) (fw_un _ _ _) (fw_un _ _ _)⟩⟩
theorem fw_R_p5 {x : Int32} (h : fw_R K rl ol op nu base lim S s) (hm : ∀ o' e', (o', e') ∈ s → o' < o) (hk : K o = 5) : fw_R K rl ol (upd op s.length (nI o)) (upd nu s.length x) base lim S ((o, e) :: s) :=
  ⟨pk_us, Or.inr (Or.inl ⟨hk, fw_R_keep h hm (fw_id _ _) (fw_id _ _) (fw_un _ _ _) (fw_un _ _ _)⟩)⟩
theorem fw_R_p6 {x : Nat} (h : fw_R K rl ol op nu base lim S s) (hm : ∀ o' e', (o', e') ∈ s → o' < o) (hk : K o = 6) (hx : x ≤ lim) : fw_R K rl (upd ol o (nI lim)) (upd op s.length (nI o)) (upd nu s.length (nI x)) base x S ((o, e) :: s) :=
  ⟨pk_us, Or.inr (Or.inr ⟨hk, pk_us, lim, hx, pk_us, fw_R_keep h hm (fw_id _ _) (fw_un _ _ _) (fw_un _ _ _) (fw_un _ _ _)⟩)⟩
theorem fw_R_0 (x : Int32) (h : fw_R K rl ol op nu base lim S s) (hm : ∀ o' e', (o', e') ∈ s → o' < o) : fw_R K (upd rl o x) ol op nu base lim S s :=
  fw_R_keep h hm (fw_un _ _ _) (fw_id _ _) (fw_id _ _) (fw_id _ _)
/-- the top is a REPEAT -/
theorem fw_R_t4 (h : fw_R K rl ol op nu base lim S ((o, e) :: s)) (hm : ∀ o' e', (o', e') ∈ s → o' < o) (hk : K o = 4) : ∃ x S', 1 ≤ x ∧ x ≤ 32 ∧ nu s.length = nI x ∧ rl o = nI x ∧ S = S' + x ∧ (∀ (y z : Int32), fw_R K (upd rl o y) ol op (upd nu s.length z) base lim S' s) ∧ (∀ (e' y : Nat), 1 ≤ y → y ≤ 32 → fw_R K (upd rl o (nI y)) ol op (upd nu s.length (nI y)) base lim (S' + y) ((o, e') :: s)) := by
  obtain ⟨h0, h⟩ := h
  rcases h with z | z | z
  · obtain ⟨_, x, S', h1, h2, h3, h4, h5, h6⟩ := z
    refine ⟨x, S', h1, h2, h3, h4, h5, fun y z => fw_R_keep h6 hm (fw_un _ _ _) (fw_id _ _) (fw_id _ _) (fw_un _ _ _), fun e' y h7 h8 => ⟨h0, Or.inl ⟨hk, y, S', h7, h8, pk_us, pk_us, rfl, fw_R_keep h6 hm (fw_un _ _ _) (fw_id _ _) (fw_id _ _) (fw_un _ _ _)⟩⟩⟩
  · exact absurd (hk.symm.trans z.1) (by decide)
  · exact absurd (hk.symm.trans z.1) (by decide)
theorem fw_R_t5 (h : fw_R K rl ol op nu base lim S ((o, e) :: s)) (hk : K o = 5) : fw_R K rl ol op nu base lim S s := by
  obtain ⟨h0, h⟩ := h
  rcases h with z | z | z
  · exact absurd (hk.symm.trans z.1) (by decide)
  · exact z.2
  · exact absurd (hk.symm.trans z.1) (by decide)
theorem fw_R_t6 (h : fw_R K rl ol op nu base lim S ((o, e) :: s)) (hk : K o = 6) : nu s.length = nI lim ∧ ∃ lim', lim ≤ lim' ∧ ol o = nI lim' ∧ fw_R K rl ol op nu base lim' S s := by
  obtain ⟨h0, h⟩ := h
  rcases h with z | z | z
  · exact absurd (hk.symm.trans z.1) (by decide)
  · exact absurd (hk.symm.trans z.1) (by decide)
  · exact z.2
theorem fw_R_op (h : fw_R K rl ol op nu base lim S ((o, e) :: s)) : op s.length = nI o := by
  obtain ⟨h0, _⟩ := h
  exact h0
theorem fw_R_e (e' : Nat) (h : fw_R K rl ol op nu base lim S ((o, e) :: s)) : fw_R K rl ol op nu base lim S ((o, e') :: s) := h
end
end
section
/-! bits: what both sides compute in two ways -/
theorem fb_1 (i : Nat) : bt 1 i = decide (i = 0) := by
  rcases Nat.lt_or_ge i 32 with h | h
  · exact (by decide +kernel : ∀ i, i < 32 → bt 1 i = decide (i = 0)) i h
  · rw [b_big h, decide_eq_false (by omega)]
theorem fb_byte (w : Int32) {n : Nat} (hn : n ≤ 24) : (w >>> (nI n &&& 31)) &&& 255 = ((w.toUInt32 >>> ((nI n).toUInt32 &&& Int32.toUInt32 31)).toInt32) &&& 255 := b_ext fun i hi => by
  rw [b_and, b_and, b_255, b_ushr n (by omega), b_sshr n (by omega) w hi]
  by_cases h : i < 8
  · rw [if_pos (by omega)]
  · rw [decide_eq_false h, Bool.and_false, Bool.and_false]
theorem fb_and1 (x : Int32) : x &&& 1 = 0 ↔ bt x 0 = false := by
  constructor
  · intro h
    have := b_and x 1 0
    rw [h, b_0, fb_1] at this
    simpa using this.symm
  · intro h
    apply b_ext
    intro i hi
    rw [b_and, fb_1, b_0]
    by_cases z : i = 0
    · subst z; rw [h]; rfl
    · rw [decide_eq_false z, Bool.and_false]
theorem fb_own {v : Nat} (hv : v < 32) {i : Nat} (hi : i < 32) : bt ((1 : Int32) <<< (nI v &&& 31)) i = decide (i = v) := by
  rw [b_shl v hv 1 hi, fb_1]
  by_cases z : i = v
  · subst z; simp
  · by_cases y : v ≤ i
    · rw [decide_eq_false z, decide_eq_false (show ¬ i - v = 0 by omega), Bool.and_false]
    · rw [decide_eq_false z, decide_eq_false y, Bool.false_and]
theorem fb_has (s : Int32) {v : Nat} (hv : v < 32) : (s >>> (nI v &&& 31)) &&& 1 = 0 ↔ s &&& ((1 : Int32) <<< (nI v &&& 31)) = 0 := by
  rw [fb_and1, b_sshr v hv s (i := 0) (by omega), if_pos (by omega), Nat.add_zero]
  constructor
  · intro h
    apply b_ext
    intro i hi
    rw [b_and, fb_own hv hi, b_0]
    by_cases z : i = v
    · subst z; rw [h]; rfl
    · rw [decide_eq_false z, Bool.and_false]
  · intro h
    have := b_and s ((1 : Int32) <<< (nI v &&& 31)) v
    rw [h, b_0, fb_own hv hv] at this
    simpa using this.symm
theorem fb_or0 (x : Int32) : (0 : Int32) ||| x = x := b_ext fun i _ => by rw [b_or, b_0, Bool.false_or]
theorem fb_0or (x : Int32) : x ||| (0 : Int32) = x := b_ext fun i _ => by rw [b_or, b_0, Bool.or_false]
theorem fb_orC (x y : Int32) : x ||| y = y ||| x := b_ext fun i _ => by rw [b_or, b_or, Bool.or_comm]
theorem fb_orA (x y z : Int32) : (x ||| y) ||| z = x ||| (y ||| z) := b_ext fun i _ => by rw [b_or, b_or, b_or, b_or, Bool.or_assoc]
theorem fb_shl0 {n : Nat} (hn : n < 32) : (0 : Int32) <<< (nI n &&& 31) = 0 := b_ext fun i hi => by rw [b_shl n hn _ hi, b_0, b_0, Bool.and_false]
theorem fb_shlor {n : Nat} (hn : n < 32) (x y : Int32) : (x ||| y) <<< (nI n &&& 31) = (x <<< (nI n &&& 31)) ||| (y <<< (nI n &&& 31)) := b_ext fun i hi => by
  rw [b_shl n hn _ hi, b_or, b_or, b_shl n hn _ hi, b_shl n hn _ hi, Bool.and_or_distrib_left]
theorem fb_shlshl {m n : Nat} (h : m + n < 32) (x : Int32) : (x <<< (nI m &&& 31)) <<< (nI n &&& 31) = x <<< (nI (m + n) &&& 31) := b_ext fun i hi => by
  rw [b_shl n (by omega) _ hi, b_shl (m + n) h _ hi]
  by_cases z : n ≤ i
  · rw [b_shl m (by omega) x (i := i - n) (by omega), decide_eq_true z, Bool.true_and, show i - n - m = i - (m + n) by omega]
    by_cases y : m + n ≤ i
    · rw [decide_eq_true y, decide_eq_true (by omega)]
    · rw [decide_eq_false y, decide_eq_false (by omega)]
  · rw [decide_eq_false z, decide_eq_false (by omega), Bool.false_and, Bool.false_and]
theorem fb_hi0 (x : Int32) {n : Nat} (hn : n < 32) : (x >>> (nI n &&& 31)) = 0 ↔ ∀ i, n ≤ i → i < 32 → bt x i = false := by
  constructor
  · intro h i h1 h2
    have := b_sshr n hn x (i := i - n) (by omega)
    rw [h, b_0, if_pos (by omega), show n + (i - n) = i by omega] at this
    exact this.symm
  · intro h
    apply b_ext
    intro i hi
    rw [b_sshr n hn x hi, b_0]
    by_cases z : n + i < 32
    · rw [if_pos z]; exact h _ (by omega) z
    · rw [if_neg z]; exact h 31 (by omega) (by omega)
theorem fb_uhi0 (x : Int32) {n : Nat} (hn : n < 32) : ((x.toUInt32 >>> ((nI n).toUInt32 &&& Int32.toUInt32 31)).toInt32) = 0 ↔ ∀ i, n ≤ i → i < 32 → bt x i = false := by
  constructor
  · intro h i h1 h2
    have := b_ushr n hn x (i - n)
    rw [h, b_0, show n + (i - n) = i by omega] at this
    exact this.symm
  · intro h
    apply b_ext
    intro i hi
    rw [b_ushr n hn x i, b_0]
    by_cases z : n + i < 32
    · exact h _ (by omega) z
    · exact b_big (by omega)
theorem fb_fit (x : Int32) {n : Nat} (hn : n < 32) : ((x.toUInt32 >>> ((nI n).toUInt32 &&& Int32.toUInt32 31)).toInt32) = 0 ↔ (x >>> (nI n &&& 31)) = 0 := by
  rw [fb_uhi0 x hn, fb_hi0 x hn]
theorem fb_him1 (x : Int32) {n : Nat} (hn : n < 32) : (x >>> (nI n &&& 31)) = -1 ↔ ∀ i, n ≤ i → i < 32 → bt x i = true := by
  constructor
  · intro h i h1 h2
    have := b_sshr n hn x (i := i - n) (by omega)
    rw [h, b_m1 _ (by omega), if_pos (by omega), show n + (i - n) = i by omega] at this
    exact this.symm
  · intro h
    apply b_ext
    intro i hi
    rw [b_sshr n hn x hi, b_m1 _ hi]
    by_cases z : n + i < 32
    · rw [if_pos z]; exact h _ (by omega) z
    · rw [if_neg z]; exact h 31 (by omega) (by omega)
/-- a sign extension by u bits keeps x just where the bits from 31 - u on are alike -/
theorem fb_ext (x : Int32) {u n : Nat} (hu : u + n = 31) : ((x <<< (nI u &&& 31)) >>> (nI u &&& 31)) = x ↔ (x >>> (nI n &&& 31)) = 0 ∨ (x >>> (nI n &&& 31)) = -1 := by
  have key : ∀ i, i < 32 → bt ((x <<< (nI u &&& 31)) >>> (nI u &&& 31)) i = if i ≤ n then bt x i else bt x n := by
    intro i hi
    rw [b_sshr u (by omega) _ hi]
    by_cases z : u + i < 32
    · rw [if_pos z, b_shl u (by omega) _ z, if_pos (by omega), decide_eq_true (by omega), Bool.true_and, show u + i - u = i by omega]
    · rw [if_neg z, b_shl u (by omega) x (i := 31) (by omega), if_neg (by omega), decide_eq_true (by omega), Bool.true_and, show 31 - u = n by omega]
  rw [fb_hi0 x (by omega), fb_him1 x (by omega)]
  constructor
  · intro h
    have h' : ∀ i, n ≤ i → i < 32 → bt x i = bt x n := by
      intro i h1 h2
      by_cases z : i = n
      · rw [z]
      · have := key i h2
        rw [h, if_neg (by omega)] at this
        exact this
    cases z : bt x n with
    | false => exact Or.inl fun i h1 h2 => (h' i h1 h2).trans z
    | true => exact Or.inr fun i h1 h2 => (h' i h1 h2).trans z
  · intro h
    apply b_ext
    intro i hi
    rw [key i hi]
    by_cases z : i ≤ n
    · rw [if_pos z]
    · rw [if_neg z]
      rcases h with h | h
      · rw [h n (by omega) (by omega), h i (by omega) hi]
      · rw [h n (by omega) (by omega), h i (by omega) hi]
theorem fb_ushrushr {m n : Nat} (h : m + n < 32) (x : Int32) : (((x.toUInt32 >>> ((nI m).toUInt32 &&& Int32.toUInt32 31)).toInt32).toUInt32 >>> ((nI n).toUInt32 &&& Int32.toUInt32 31)).toInt32 = (x.toUInt32 >>> ((nI (m + n)).toUInt32 &&& Int32.toUInt32 31)).toInt32 := b_ext fun i hi => by
  rw [b_ushr n (by omega), b_ushr m (by omega), b_ushr (m + n) h, Nat.add_assoc]
theorem fb_ushr35 {m n : Nat} (hm : m < 32) (hn : n < 32) (h : 32 ≤ m + n) (x : Int32) : (((x.toUInt32 >>> ((nI m).toUInt32 &&& Int32.toUInt32 31)).toInt32).toUInt32 >>> ((nI n).toUInt32 &&& Int32.toUInt32 31)).toInt32 = 0 := b_ext fun i hi => by
  rw [b_ushr n hn, b_ushr m hm, b_0]
  exact b_big (by omega)
end
section
/-! arithmetic of the run -/
def fw_w (w : Bool) : Int32 := if w then 1 else 0
def fw_r (w : Bool) : Int32 := if w then 0 else 1
def fw_It (k a : Int32) : Prop := ∃ c : Nat, c ≤ 13 ∧ k = nI c ∧ (c = 0 → ∃ m : Nat, 1 ≤ m ∧ m ≤ 4 ∧ a = nI m) ∧ (c = 2 → ∃ m : Nat, 1 ≤ m ∧ m ≤ 16 ∧ a = nI m) ∧ (c = 8 → ∃ m : Nat, 2 ≤ m ∧ m ≤ 8 ∧ a = nI m)
def fw_Fmt (FK FA FM : Nat → Int32) (N : Nat) : Prop := N ≤ 40 ∧ fw_Good FK FM N ∧ ∀ j, j < N → fw_It (FK j) (FA j)
theorem fa_al {a p : Nat} (h2 : 2 ≤ a) (h8 : a ≤ 8) : ∃ c, c * a = p + (a - p % a) % a ∧ c ≤ p ∧ ∀ i, i * a < p ↔ i < c := by
  have h : a = 2 ∨ a = 3 ∨ a = 4 ∨ a = 5 ∨ a = 6 ∨ a = 7 ∨ a = 8 := by omega
  refine ⟨(p + (a - 1)) / a, ?_⟩
  rcases h with rfl | rfl | rfl | rfl | rfl | rfl | rfl
  · exact ⟨by omega, by omega, fun i => by omega⟩
  · exact ⟨by omega, by omega, fun i => by omega⟩
  · exact ⟨by omega, by omega, fun i => by omega⟩
  · exact ⟨by omega, by omega, fun i => by omega⟩
  · exact ⟨by omega, by omega, fun i => by omega⟩
  · exact ⟨by omega, by omega, fun i => by omega⟩
  · exact ⟨by omega, by omega, fun i => by omega⟩
/-- the visits that may still come -/
def fw_V (sp S i : Nat) : Nat := (400 - sp) * 1353 + 41 * S + (40 - i)
theorem fw_V_step {sp S i S' i' : Nat} (h : sp < 400) (hS : S' ≤ S + 32) (hi : i < i') (hi' : i' ≤ 40) : fw_V (sp + 1) S' i' < fw_V sp S i := by
  unfold fw_V
  have : (400 - sp) * 1353 = (400 - (sp + 1)) * 1353 + 1353 := by omega
  omega
theorem fw_V_on {sp S i S' i' : Nat} (hS : S' ≤ S) (hi : i < i') (hi' : i' ≤ 40) : fw_V sp S' i' < fw_V sp S i := by
  unfold fw_V
  omega
theorem fw_V_back {sp S i i' : Nat} : fw_V sp S i' < fw_V sp (S + 1) i := by
  unfold fw_V
  omega
theorem fw_V_0 : fw_V 0 0 0 = 541240 := rfl
/-- the number of an INT, by the one side and the other -/
def fr_X (f : Nat → Int32) : Nat → Int32
  | 0 => 0
  | i + 1 => (fr_X f i <<< ((8 : Int32) &&& 31)) ||| f i
def fr_Y (g : Nat → Int32) (s : Nat → Nat) : Nat → Int32
  | 0 => 0
  | i + 1 => fr_Y g s i ||| (g i <<< (nI (8 * s i) &&& 31))
theorem fr_s8 (x : Int32) : x <<< ((8 : Int32) &&& 31) = x <<< (nI 8 &&& 31) := rfl
theorem fr_s0 (x : Int32) : x <<< (nI 0 &&& 31) = x := b_ext fun i hi => by
  rw [b_shl 0 (by omega) x hi, decide_eq_true (Nat.zero_le i), Bool.true_and, Nat.sub_zero]
theorem fr_1 (f : Nat → Int32) : fr_X f 1 = f 0 := by
  simp only [fr_X]
  rw [fr_s8, fb_shl0 (by omega), fb_or0]
theorem fr_2 (f : Nat → Int32) : fr_X f 2 = (f 0 <<< (nI 8 &&& 31)) ||| f 1 := by
  show (fr_X f 1 <<< ((8 : Int32) &&& 31)) ||| f 1 = _
  rw [fr_1, fr_s8]
theorem fr_3 (f : Nat → Int32) : fr_X f 3 = ((f 0 <<< (nI 16 &&& 31)) ||| (f 1 <<< (nI 8 &&& 31))) ||| f 2 := by
  show (fr_X f 2 <<< ((8 : Int32) &&& 31)) ||| f 2 = _
  rw [fr_2, fr_s8, fb_shlor (by omega), fb_shlshl (by omega)]
theorem fr_4 (f : Nat → Int32) : fr_X f 4 = (((f 0 <<< (nI 24 &&& 31)) ||| (f 1 <<< (nI 16 &&& 31))) ||| (f 2 <<< (nI 8 &&& 31))) ||| f 3 := by
  show (fr_X f 3 <<< ((8 : Int32) &&& 31)) ||| f 3 = _
  rw [fr_3, fr_s8, fb_shlor (by omega), fb_shlor (by omega), fb_shlshl (by omega), fb_shlshl (by omega)]
theorem fr_r3 (x y z : Int32) : (x ||| y) ||| z = (z ||| y) ||| x := b_ext fun i _ => by
  simp only [b_or]
  cases bt x i <;> cases bt y i <;> cases bt z i <;> rfl
theorem fr_r4 (x y z t : Int32) : ((x ||| y) ||| z) ||| t = ((t ||| z) ||| y) ||| x := b_ext fun i _ => by
  simp only [b_or]
  cases bt x i <;> cases bt y i <;> cases bt z i <;> cases bt t i <;> rfl
/-- highest byte first -/
theorem fr_big (f : Nat → Int32) {a : Nat} (h1 : 1 ≤ a) (h4 : a ≤ 4) : fr_X f a = fr_Y f (fun j => a - 1 - j) a := by
  have h : a = 1 ∨ a = 2 ∨ a = 3 ∨ a = 4 := by omega
  rcases h with rfl | rfl | rfl | rfl
  · rw [fr_1]
    show _ = (0 : Int32) ||| (f 0 <<< (nI 0 &&& 31))
    rw [fb_or0, fr_s0]
  · rw [fr_2]
    show _ = ((0 : Int32) ||| (f 0 <<< (nI 8 &&& 31))) ||| (f 1 <<< (nI 0 &&& 31))
    rw [fb_or0, fr_s0]
  · rw [fr_3]
    show _ = (((0 : Int32) ||| (f 0 <<< (nI 16 &&& 31))) ||| (f 1 <<< (nI 8 &&& 31))) ||| (f 2 <<< (nI 0 &&& 31))
    rw [fb_or0, fr_s0]
  · rw [fr_4]
    show _ = ((((0 : Int32) ||| (f 0 <<< (nI 24 &&& 31))) ||| (f 1 <<< (nI 16 &&& 31))) ||| (f 2 <<< (nI 8 &&& 31))) ||| (f 3 <<< (nI 0 &&& 31))
    rw [fb_or0, fr_s0]
/-- lowest byte first -/
theorem fr_low (f g : Nat → Int32) {a : Nat} (h1 : 1 ≤ a) (h4 : a ≤ 4) (h : ∀ i, i < a → f i = g (a - 1 - i)) : fr_X f a = fr_Y g (fun j => j) a := by
  have h' : a = 1 ∨ a = 2 ∨ a = 3 ∨ a = 4 := by omega
  rcases h' with rfl | rfl | rfl | rfl
  · rw [fr_1, h 0 (by omega)]
    show _ = (0 : Int32) ||| (g 0 <<< (nI 0 &&& 31))
    rw [fb_or0, fr_s0]
  · rw [fr_2, h 0 (by omega), h 1 (by omega)]
    show _ = ((0 : Int32) ||| (g 0 <<< (nI 0 &&& 31))) ||| (g 1 <<< (nI 8 &&& 31))
    rw [fb_or0, fr_s0, fb_orC]
  · rw [fr_3, h 0 (by omega), h 1 (by omega), h 2 (by omega)]
    show _ = (((0 : Int32) ||| (g 0 <<< (nI 0 &&& 31))) ||| (g 1 <<< (nI 8 &&& 31))) ||| (g 2 <<< (nI 16 &&& 31))
    rw [fb_or0, fr_s0, fr_r3]
  · rw [fr_4, h 0 (by omega), h 1 (by omega), h 2 (by omega), h 3 (by omega)]
    show _ = ((((0 : Int32) ||| (g 0 <<< (nI 0 &&& 31))) ||| (g 1 <<< (nI 8 &&& 31))) ||| (g 2 <<< (nI 16 &&& 31))) ||| (g 3 <<< (nI 24 &&& 31))
    rw [fb_or0, fr_s0, fr_r4]
end
section
/-! the relation -/
def fw_Pr (n fd ll md : Nat) (iK iA FK FA FM : Nat → Int32) (hf fc sz : Int32) : Prop := n ≤ 40 ∧ fd ≤ 64 ∧ ll ≤ 40 ∧ md ≤ 64 ∧ (∀ j, j < n → fw_It (iK j) (iA j)) ∧ ((hf = 0 ∧ sz = -1) ∨ (hf = 1 ∧ ∃ N, fc = nI N ∧ sz = nI N ∧ fw_Fmt FK FA FM N))
def i_Rel (_ : Nat) (u : SX) (v : SY) : Prop := match u, v with
  | (xic, xoc, xfc, xhf, xil, xll, xol, xea, xwr, xcu, xfo, xsp, xpo, xbl, xli, xvu, iK, iA, iB, xM, xO, xS, FK, FA, FB, FM, inp, lst, out, vs, xR, xL), (yic, ysz, yfd, yls, ymd, ysa, ytk, ydp, yps, ybi, ysp, yus, ynx, yra, yrd, yK, yA, yB, zK, zA, zB, yin, ylst, yout, yvs, yO, yN, yS, yT) => ∃ n fd ll md : Nat, xic = nI n ∧ yic = nI n ∧ xil = nI fd ∧ yfd = nI fd ∧ xll = nI ll ∧ yls = nI ll ∧ xol = nI md ∧ ymd = nI md ∧ xea = ysa ∧ xpo = ytk ∧ iK = yK ∧ iA = yA ∧ iB = yB ∧ FK = zK ∧ FA = zA ∧ FB = zB ∧ inp = yin ∧ lst = ylst ∧ out = yout ∧ vs = yvs ∧ fw_Pr n fd ll md iK iA FK FA FM xhf xfc ysz
theorem i_up {k : Nat} {u : SX} {v : SY} (h : i_Rel k u v) : i_Rel (k + 4) u v := h
theorem i_vc0 : wpX_init (fun u => wpY_init (fun v => i_Rel 0 u v)) :=
  ⟨0, 0, 0, 0, rfl, rfl, rfl, rfl, rfl, rfl, rfl, rfl, rfl, rfl, rfl, rfl, rfl, rfl, rfl, rfl, rfl, rfl, rfl, rfl, by omega, by omega, by omega, by omega, fun j h => absurd h (Nat.not_lt_zero j), Or.inl ⟨rfl, rfl⟩⟩
end
section
/-! the methods without a run -/
theorem i_vc_wipe {k : Nat} {u : SX} {v : SY} (I : i_Rel k u v) (hk : k + 4 ≤ 2048) : wpX_wipe (fun r u' => wpY_wipe (fun r' v' => r' = r ∧ i_Rel (k + 4) u' v') v) u := by
  obtain ⟨xic, xoc, xfc, xhf, xil, xll, xol, xea, xwr, xcu, xfo, xsp, xpo, xbl, xli, xvu, iK, iA, iB, xM, xO, xS, FK, FA, FB, FM, inp, lst, out, vs, xR, xL⟩ := u
  obtain ⟨yic, ysz, yfd, yls, ymd, ysa, ytk, ydp, yps, ybi, ysp, yus, ynx, yra, yrd, yK, yA, yB, zK, zA, zB, yin, ylst, yout, yvs, yO, yN, yS, yT⟩ := v
  obtain ⟨n, fd, ll, md, rfl, rfl, rfl, rfl, rfl, rfl, rfl, rfl, rfl, rfl, rfl, rfl, rfl, rfl, rfl, rfl, rfl, rfl, rfl, rfl, h1, h2, h3, h4, h5, h6⟩ := I
  exact ⟨rfl, 0, fd, ll, md, rfl, rfl, rfl, rfl, rfl, rfl, rfl, rfl, rfl, rfl, rfl, rfl, rfl, rfl, rfl, rfl, rfl, rfl, rfl, rfl, by omega, h2, h3, h4, fun j h => absurd h (Nat.not_lt_zero j), h6⟩
theorem i_vc_drop {k : Nat} {u : SX} {v : SY} (I : i_Rel k u v) (hk : k + 4 ≤ 2048) : wpX_drop (fun r u' => wpY_drop (fun r' v' => r' = r ∧ i_Rel (k + 4) u' v') v) u := by
  obtain ⟨xic, xoc, xfc, xhf, xil, xll, xol, xea, xwr, xcu, xfo, xsp, xpo, xbl, xli, xvu, iK, iA, iB, xM, xO, xS, FK, FA, FB, FM, inp, lst, out, vs, xR, xL⟩ := u
  obtain ⟨yic, ysz, yfd, yls, ymd, ysa, ytk, ydp, yps, ybi, ysp, yus, ynx, yra, yrd, yK, yA, yB, zK, zA, zB, yin, ylst, yout, yvs, yO, yN, yS, yT⟩ := v
  obtain ⟨n, fd, ll, md, rfl, rfl, rfl, rfl, rfl, rfl, rfl, rfl, rfl, rfl, rfl, rfl, rfl, rfl, rfl, rfl, rfl, rfl, rfl, rfl, h1, h2, h3, h4, h5, h6⟩ := I
  exact ⟨rfl, n, fd, 0, md, rfl, rfl, rfl, rfl, rfl, rfl, rfl, rfl, rfl, rfl, rfl, rfl, rfl, rfl, rfl, rfl, rfl, rfl, rfl, rfl, h1, h2, by omega, h4, h5, h6⟩
theorem i_vc_place {k : Nat} {u : SX} {v : SY} (I : i_Rel k u v) (hk : k + 4 ≤ 2048) : wpX_place (fun r => wpY_place (fun r' => r' = r ∧ i_Rel (k + 4) u v) v) u := by
  have J := I
  obtain ⟨xic, xoc, xfc, xhf, xil, xll, xol, xea, xwr, xcu, xfo, xsp, xpo, xbl, xli, xvu, iK, iA, iB, xM, xO, xS, FK, FA, FB, FM, inp, lst, out, vs, xR, xL⟩ := u
  obtain ⟨yic, ysz, yfd, yls, ymd, ysa, ytk, ydp, yps, ybi, ysp, yus, ynx, yra, yrd, yK, yA, yB, zK, zA, zB, yin, ylst, yout, yvs, yO, yN, yS, yT⟩ := v
  obtain ⟨n, fd, ll, md, rfl, rfl, rfl, rfl, rfl, rfl, rfl, rfl, rfl, rfl, rfl, rfl, rfl, rfl, rfl, rfl, rfl, rfl, rfl, rfl, h1, h2, h3, h4, h5, h6⟩ := I
  exact ⟨rfl, J⟩
theorem i_vc_at {k : Nat} {u : SX} {v : SY} (I : i_Rel k u v) (hk : k + 4 ≤ 2048) : wpX_at (fun r => wpY_at (fun r' => r' = r ∧ i_Rel (k + 4) u v) v) u := by
  have J := I
  obtain ⟨xic, xoc, xfc, xhf, xil, xll, xol, xea, xwr, xcu, xfo, xsp, xpo, xbl, xli, xvu, iK, iA, iB, xM, xO, xS, FK, FA, FB, FM, inp, lst, out, vs, xR, xL⟩ := u
  obtain ⟨yic, ysz, yfd, yls, ymd, ysa, ytk, ydp, yps, ybi, ysp, yus, ynx, yra, yrd, yK, yA, yB, zK, zA, zB, yin, ylst, yout, yvs, yO, yN, yS, yT⟩ := v
  obtain ⟨n, fd, ll, md, rfl, rfl, rfl, rfl, rfl, rfl, rfl, rfl, rfl, rfl, rfl, rfl, rfl, rfl, rfl, rfl, rfl, rfl, rfl, rfl, h1, h2, h3, h4, h5, h6⟩ := I
  exact ⟨rfl, J⟩
theorem i_vc_values {k : Nat} {u : SX} {v : SY} (I : i_Rel k u v) (hk : k + 4 ≤ 2048) : wpX_values (fun r => wpY_values (fun r' => r' = r ∧ i_Rel (k + 4) u v) v) u := by
  have J := I
  obtain ⟨xic, xoc, xfc, xhf, xil, xll, xol, xea, xwr, xcu, xfo, xsp, xpo, xbl, xli, xvu, iK, iA, iB, xM, xO, xS, FK, FA, FB, FM, inp, lst, out, vs, xR, xL⟩ := u
  obtain ⟨yic, ysz, yfd, yls, ymd, ysa, ytk, ydp, yps, ybi, ysp, yus, ynx, yra, yrd, yK, yA, yB, zK, zA, zB, yin, ylst, yout, yvs, yO, yN, yS, yT⟩ := v
  obtain ⟨n, fd, ll, md, rfl, rfl, rfl, rfl, rfl, rfl, rfl, rfl, rfl, rfl, rfl, rfl, rfl, rfl, rfl, rfl, rfl, rfl, rfl, rfl, h1, h2, h3, h4, h5, h6⟩ := I
  exact ⟨rfl, J⟩
theorem i_vc_bytes {k : Nat} {u : SX} {v : SY} (I : i_Rel k u v) (hk : k + 4 ≤ 2048) : wpX_bytes (fun r => wpY_bytes (fun r' => r' = r ∧ i_Rel (k + 4) u v) v) u := by
  have J := I
  obtain ⟨xic, xoc, xfc, xhf, xil, xll, xol, xea, xwr, xcu, xfo, xsp, xpo, xbl, xli, xvu, iK, iA, iB, xM, xO, xS, FK, FA, FB, FM, inp, lst, out, vs, xR, xL⟩ := u
  obtain ⟨yic, ysz, yfd, yls, ymd, ysa, ytk, ydp, yps, ybi, ysp, yus, ynx, yra, yrd, yK, yA, yB, zK, zA, zB, yin, ylst, yout, yvs, yO, yN, yS, yT⟩ := v
  obtain ⟨n, fd, ll, md, rfl, rfl, rfl, rfl, rfl, rfl, rfl, rfl, rfl, rfl, rfl, rfl, rfl, rfl, rfl, rfl, rfl, rfl, rfl, rfl, h1, h2, h3, h4, h5, h6⟩ := I
  exact ⟨rfl, J⟩
theorem i_vc_valueAt {k : Nat} {u : SX} {v : SY} (I : i_Rel k u v) (hk : k + 4 ≤ 2048) (v1 : Int32) : wpX_valueAt (fun r => wpY_valueAt (fun r' => r' = r ∧ i_Rel (k + 4) u v) v v1) u v1 := by
  have J := I
  obtain ⟨xic, xoc, xfc, xhf, xil, xll, xol, xea, xwr, xcu, xfo, xsp, xpo, xbl, xli, xvu, iK, iA, iB, xM, xO, xS, FK, FA, FB, FM, inp, lst, out, vs, xR, xL⟩ := u
  obtain ⟨yic, ysz, yfd, yls, ymd, ysa, ytk, ydp, yps, ybi, ysp, yus, ynx, yra, yrd, yK, yA, yB, zK, zA, zB, yin, ylst, yout, yvs, yO, yN, yS, yT⟩ := v
  obtain ⟨n, fd, ll, md, rfl, rfl, rfl, rfl, rfl, rfl, rfl, rfl, rfl, rfl, rfl, rfl, rfl, rfl, rfl, rfl, rfl, rfl, rfl, rfl, h1, h2, h3, h4, h5, h6⟩ := I
  by_cases h0 : v1 < 0
  · exact br_t h0 (br_t h0 ⟨rfl, J⟩)
  · obtain ⟨j, hj, rfl⟩ := nI_of h0
    by_cases hl : j < ll
    · have hi : vp_in (nI j) 40 := vp_in_nI (by omega) (by omega)
      exact br_f h0 (br_f (nI_ge hl (by omega)) ⟨hi, br_f h0 (br_t (nI_lt hl (by omega)) ⟨hi, rfl, J⟩)⟩)
    · exact br_f h0 (br_t (nI_le (by omega) hj) (br_f h0 (br_f (nI_nlt (by omega) hj) ⟨rfl, J⟩)))
theorem i_vc_byteAt {k : Nat} {u : SX} {v : SY} (I : i_Rel k u v) (hk : k + 4 ≤ 2048) (v1 : Int32) : wpX_byteAt (fun r => wpY_byteAt (fun r' => r' = r ∧ i_Rel (k + 4) u v) v v1) u v1 := by
  have J := I
  obtain ⟨xic, xoc, xfc, xhf, xil, xll, xol, xea, xwr, xcu, xfo, xsp, xpo, xbl, xli, xvu, iK, iA, iB, xM, xO, xS, FK, FA, FB, FM, inp, lst, out, vs, xR, xL⟩ := u
  obtain ⟨yic, ysz, yfd, yls, ymd, ysa, ytk, ydp, yps, ybi, ysp, yus, ynx, yra, yrd, yK, yA, yB, zK, zA, zB, yin, ylst, yout, yvs, yO, yN, yS, yT⟩ := v
  obtain ⟨n, fd, ll, md, rfl, rfl, rfl, rfl, rfl, rfl, rfl, rfl, rfl, rfl, rfl, rfl, rfl, rfl, rfl, rfl, rfl, rfl, rfl, rfl, h1, h2, h3, h4, h5, h6⟩ := I
  by_cases h0 : v1 < 0
  · exact br_t h0 (br_t h0 ⟨rfl, J⟩)
  · obtain ⟨j, hj, rfl⟩ := nI_of h0
    by_cases hl : j < md
    · have hi : vp_in (nI j) 64 := vp_in_nI (by omega) (by omega)
      exact br_f h0 (br_f (nI_ge hl (by omega)) ⟨hi, br_f h0 (br_t (nI_lt hl (by omega)) ⟨hi, rfl, J⟩)⟩)
    · exact br_f h0 (br_t (nI_le (by omega) hj) (br_f h0 (br_f (nI_nlt (by omega) hj) ⟨rfl, J⟩)))
theorem i_vc_variable {k : Nat} {u : SX} {v : SY} (I : i_Rel k u v) (hk : k + 4 ≤ 2048) (v1 : Int32) : wpX_variable (fun r => wpY_variable (fun r' => r' = r ∧ i_Rel (k + 4) u v) v v1) u v1 := by
  have J := I
  obtain ⟨xic, xoc, xfc, xhf, xil, xll, xol, xea, xwr, xcu, xfo, xsp, xpo, xbl, xli, xvu, iK, iA, iB, xM, xO, xS, FK, FA, FB, FM, inp, lst, out, vs, xR, xL⟩ := u
  obtain ⟨yic, ysz, yfd, yls, ymd, ysa, ytk, ydp, yps, ybi, ysp, yus, ynx, yra, yrd, yK, yA, yB, zK, zA, zB, yin, ylst, yout, yvs, yO, yN, yS, yT⟩ := v
  obtain ⟨n, fd, ll, md, rfl, rfl, rfl, rfl, rfl, rfl, rfl, rfl, rfl, rfl, rfl, rfl, rfl, rfl, rfl, rfl, rfl, rfl, rfl, rfl, h1, h2, h3, h4, h5, h6⟩ := I
  by_cases h0 : v1 < 0
  · exact br_t h0 (br_t h0 ⟨rfl, J⟩)
  · obtain ⟨j, hj, rfl⟩ := nI_of h0
    by_cases hl : j < 8
    · have hi : vp_in (nI j) 8 := vp_in_nI (by omega) (by omega)
      exact br_f h0 (br_f (nI_ge (b := 8) hl (by decide)) ⟨hi, br_f h0 (br_t (nI_le (b := 7) (by omega) (by decide)) ⟨hi, rfl, J⟩)⟩)
    · exact br_f h0 (br_t (nI_le (a := 8) (by omega) hj) (br_f h0 (br_f (nI_ge (a := 7) (by omega) hj) ⟨rfl, J⟩)))
theorem i_vc_value {k : Nat} {u : SX} {v : SY} (I : i_Rel k u v) (hk : k + 4 ≤ 2048) (v1 : Int32) : wpX_value (fun r u' => wpY_value (fun r' v' => r' = r ∧ i_Rel (k + 4) u' v') v v1) u v1 := by
  have J := I
  obtain ⟨xic, xoc, xfc, xhf, xil, xll, xol, xea, xwr, xcu, xfo, xsp, xpo, xbl, xli, xvu, iK, iA, iB, xM, xO, xS, FK, FA, FB, FM, inp, lst, out, vs, xR, xL⟩ := u
  obtain ⟨yic, ysz, yfd, yls, ymd, ysa, ytk, ydp, yps, ybi, ysp, yus, ynx, yra, yrd, yK, yA, yB, zK, zA, zB, yin, ylst, yout, yvs, yO, yN, yS, yT⟩ := v
  obtain ⟨n, fd, ll, md, rfl, rfl, rfl, rfl, rfl, rfl, rfl, rfl, rfl, rfl, rfl, rfl, rfl, rfl, rfl, rfl, rfl, rfl, rfl, rfl, h1, h2, h3, h4, h5, h6⟩ := I
  by_cases hl : ll < 40
  · have hi : vp_in (nI ll) 40 := vp_in_nI (by omega) (by omega)
    have e1 : nI ll + 1 = nI (ll + 1) := nI_1 ll
    have c1 : nI ll < (40 : Int32) := nI_lt (b := 40) hl (by decide)
    have c2 : ¬ nI ll = (40 : Int32) := fun z => by
      have := (nI_eq (a := ll) (b := 40) (by omega) (by omega)).mp z
      omega
    exact br_t c1 ⟨hi, nm_e (nm_r e1 (br_f c2 (nm_r e1 ⟨hi, nm_e ⟨rfl, n, fd, ll + 1, md, rfl, rfl, rfl, rfl, rfl, rfl, rfl, rfl, rfl, rfl, rfl, rfl, rfl, rfl, rfl, rfl, rfl, rfl, rfl, rfl, h1, h2, hl, h4, h5, h6⟩⟩)))⟩
  · have e : ll = 40 := by omega
    have c1 : ¬ nI ll < (40 : Int32) := nI_nlt (b := 40) (by omega) (by omega)
    have c2 : nI ll = (40 : Int32) := by rw [e]; rfl
    exact br_f c1 (br_t c2 ⟨rfl, J⟩)
section
variable {xic xoc xfc xhf xil xll xol xea xwr xcu xfo xsp xpo xbl xli xvu yic ysz yfd yls ymd ysa ytk ydp yps ybi ysp yus ynx yra yrd : Int32} {iK iA iB xM xO xS FK FA FB FM inp lst out vs xR xL yO yN yS yT : Nat → Int32}
theorem ff_Y64 {w : Int32} {m : Nat} (hm : m ≤ 4) : ∀ d c : Nat, c + d = m → ∀ post : Int32 → SY → Prop, post (nI 64) (yic, ysz, nI 64, yls, ymd, ysa, ytk, ydp, yps, ybi, ysp, yus, ynx, yra, yrd, iK, iA, iB, FK, FA, FB, inp, lst, out, vs, yO, yN, yS, yT) → wY_feed_14 post w (nI m) yic ysz yls ymd ysa ytk ydp yps ybi ysp yus ynx yra yrd (d + 1) (nI c) (nI 64) iK iA iB FK FA FB inp lst out vs yO yN yS yT := by
  intro d
  induction d with
  | zero => exact fun c hc post hp => br_t (nI_le (by omega) (by omega)) hp
  | succ d ih =>
    intro c hc post hp
    refine br_f (nI_ge (by omega) (by omega)) (br_t (by decide) (nm_r (nI_1 c) ?_))
    exact ih (c + 1) (by omega) post hp
theorem ff_lock {w : Int32} {m : Nat} (hm : m ≤ 4) : ∀ (d c fd : Nat) (inp : Nat → Int32), c + d = m → fd ≤ 64 → ∃ (fd' : Nat) (inp' : Nat → Int32), fd' ≤ 64 ∧ (∀ post : Int32 → SX → Prop, post (nI fd') (xic, xoc, xfc, xhf, nI fd', xll, xol, xea, xwr, xcu, xfo, xsp, xpo, xbl, xli, xvu, iK, iA, iB, xM, xO, xS, FK, FA, FB, FM, inp', lst, out, vs, xR, xL) → wX_feed_14 post w (nI m) xic xoc xfc xhf xll xol xea xwr xcu xfo xsp xpo xbl xli xvu (d + 1) (nI c) (nI fd) iK iA iB xM xO xS FK FA FB FM inp lst out vs xR xL) ∧ (∀ post : Int32 → SY → Prop, post (nI fd') (yic, ysz, nI fd', yls, ymd, ysa, ytk, ydp, yps, ybi, ysp, yus, ynx, yra, yrd, iK, iA, iB, FK, FA, FB, inp', lst, out, vs, yO, yN, yS, yT) → wY_feed_14 post w (nI m) yic ysz yls ymd ysa ytk ydp yps ybi ysp yus ynx yra yrd (d + 1) (nI c) (nI fd) iK iA iB FK FA FB inp lst out vs yO yN yS yT) := by
  intro d
  induction d with
  | zero =>
    intro c fd inp hc hf
    have h : nI m ≤ nI c := nI_le (by omega) (by omega)
    exact ⟨fd, inp, hf, fun post hp => br_t h hp, fun post hp => br_t h hp⟩
  | succ d ih =>
    intro c fd inp hc hf
    have h : ¬ nI m ≤ nI c := nI_ge (by omega) (by omega)
    by_cases hl : fd < 64
    · have h64 : ¬ (64 : Int32) ≤ nI fd := nI_ge (b := 64) hl (by decide)
      have hi : vp_in (nI fd) 64 := vp_in_nI hl (by omega)
      have ec : (nI fd).toNatClampNeg = fd := nI_clamp (by omega)
      have e8 : (8 : Int32) * nI c = nI (8 * c) := pk_mul 8 c
      obtain ⟨fd', inp', hf', HX, HY⟩ := ih (c + 1) (fd + 1) (upd inp fd ((w >>> (nI (8 * c) &&& 31)) &&& 255)) (by omega) (by omega)
      refine ⟨fd', inp', hf', fun post hp => br_f h (br_f h64 ⟨hi, nm_r ?_ (nm_r (nI_1 fd) (nm_r (nI_1 c) (HX post hp)))⟩), fun post hp => br_f h (br_f h64 (nm_r (nI_1 fd) ⟨hi, nm_r ?_ (nm_r (nI_1 c) (HY post hp))⟩))⟩
      · rw [ec, e8, fb_byte w (by omega)]
      · rw [ec, e8]
    · have e : fd = 64 := by omega
      subst e
      refine ⟨64, inp, by omega, fun post hp => br_f h (br_t (by decide) hp), fun post hp => ?_⟩
      exact ff_Y64 hm (d + 1) c hc post hp
end
theorem i_vc_feed {k : Nat} {u : SX} {v : SY} (I : i_Rel k u v) (hk : k + 4 ≤ 2048) (v1 : Int32) (v2 : Int32) : wpX_feed (fun r u' => wpY_feed (fun r' v' => r' = r ∧ i_Rel (k + 4) u' v') v v1 v2) u v1 v2 := by
  have J := I
  obtain ⟨xic, xoc, xfc, xhf, xil, xll, xol, xea, xwr, xcu, xfo, xsp, xpo, xbl, xli, xvu, iK, iA, iB, xM, xO, xS, FK, FA, FB, FM, inp, lst, out, vs, xR, xL⟩ := u
  obtain ⟨yic, ysz, yfd, yls, ymd, ysa, ytk, ydp, yps, ybi, ysp, yus, ynx, yra, yrd, yK, yA, yB, zK, zA, zB, yin, ylst, yout, yvs, yO, yN, yS, yT⟩ := v
  obtain ⟨n, fd, ll, md, rfl, rfl, rfl, rfl, rfl, rfl, rfl, rfl, rfl, rfl, rfl, rfl, rfl, rfl, rfl, rfl, rfl, rfl, rfl, rfl, h1, h2, h3, h4, h5, h6⟩ := I
  by_cases c1 : v2 < 1
  · exact br_t c1 (br_t c1 ⟨rfl, J⟩)
  · by_cases c2 : v2 ≤ 4
    · have h0 : ¬ v2 < 0 := fun z => c1 (Int32.lt_trans z (by decide))
      obtain ⟨m, hm, rfl⟩ := nI_of2 (n := 4) (by decide) h0 c2
      obtain ⟨fd', inp', hf', HX, HY⟩ := ff_lock (w := v1) hm m 0 fd inp (by omega) h2 (xic := nI n) (xoc := xoc) (xfc := xfc) (xhf := xhf) (xll := nI ll) (xol := nI md) (xea := xea) (xwr := xwr) (xcu := xcu) (xfo := xfo) (xsp := xsp) (xpo := xpo) (xbl := xbl) (xli := xli) (xvu := xvu) (iK := iK) (iA := iA) (iB := iB) (xM := xM) (xO := xO) (xS := xS) (FK := FK) (FA := FA) (FB := FB) (FM := FM) (lst := lst) (out := out) (vs := vs) (xR := xR) (xL := xL) (yic := nI n) (ysz := ysz) (yls := nI ll) (ymd := nI md) (ysa := xea) (ytk := xpo) (ydp := ydp) (yps := yps) (ybi := ybi) (ysp := ysp) (yus := yus) (ynx := ynx) (yra := yra) (yrd := yrd) (yO := yO) (yN := yN) (yS := yS) (yT := yT)
      exact br_f c1 (br_t c2 ⟨m + 1, HX _ (br_f c1 (br_t c2 ⟨m + 1, HY _ ⟨rfl, n, fd', ll, md, rfl, rfl, rfl, rfl, rfl, rfl, rfl, rfl, rfl, rfl, rfl, rfl, rfl, rfl, rfl, rfl, rfl, rfl, rfl, rfl, h1, hf', h3, h4, h5, h6⟩⟩))⟩)
    · exact br_f c1 (br_f c2 (br_f c1 (br_f c2 ⟨rfl, J⟩)))
end
section
/-! put, kind by kind -/
def fp_in (x lo hi : Int32) : Int32 := if x < lo then 0 else if hi < x then 0 else 1
theorem fp_in01 (x lo hi : Int32) : fp_in x lo hi = 0 ∨ fp_in x lo hi = 1 := by
  unfold fp_in
  by_cases h1 : x < lo
  · rw [if_pos h1]; exact Or.inl rfl
  · rw [if_neg h1]
    by_cases h2 : hi < x
    · rw [if_pos h2]; exact Or.inl rfl
    · rw [if_neg h2]; exact Or.inr rfl
theorem fp_br {x lo hi : Int32} {P : Int32 → Prop} (h : P (fp_in x lo hi)) : (x < lo → P 0) ∧ (¬ x < lo → ((hi < x → P 0) ∧ (¬ hi < x → P 1))) := by
  unfold fp_in at h
  by_cases h1 : x < lo
  · rw [if_pos h1] at h; exact br_t h1 h
  · rw [if_neg h1] at h
    by_cases h2 : hi < x
    · rw [if_pos h2] at h; exact br_f h1 (br_t h2 h)
    · rw [if_neg h2] at h; exact br_f h1 (br_f h2 h)
theorem fp_87 (b : Int32) : (8 : Int32) ≤ b ↔ 7 < b := by
  rw [Int32.le_iff_toInt_le, Int32.lt_iff_toInt_lt, show (8 : Int32).toInt = 8 by decide, show (7 : Int32).toInt = 7 by decide]
  omega
theorem fp_br8 {x : Int32} {P : Int32 → Prop} (h : P (fp_in x 0 7)) : (x < 0 → P 0) ∧ (¬ x < 0 → ((8 ≤ x → P 0) ∧ (¬ 8 ≤ x → P 1))) := by
  rw [fp_87]
  exact fp_br h
theorem fp_1 {x : Int32} {lo hi : Nat} (h : fp_in x (nI lo) (nI hi) = 1) (hl : lo ≤ hi) (hh : hi < 2 ^ 31) : ∃ m : Nat, lo ≤ m ∧ m ≤ hi ∧ x = nI m := by
  unfold fp_in at h
  by_cases h1 : x < nI lo
  · rw [if_pos h1] at h; exact absurd h (by decide)
  · rw [if_neg h1] at h
    by_cases h2 : nI hi < x
    · rw [if_pos h2] at h; exact absurd h (by decide)
    · have h0 : ¬ x < 0 := by
        intro z
        apply h1
        exact Int32.lt_of_lt_of_le z (nI_pos' (by omega))
      obtain ⟨j, hj, rfl⟩ := nI_of h0
      rw [nI_ltI hj (by omega)] at h1
      rw [nI_ltI hh hj] at h2
      exact ⟨j, by omega, by omega, rfl⟩
theorem fp_w {x lo hi : Int32} {post : Int32 → Prop} (h : post (fp_in x lo hi)) : wpY_within post x lo hi := fp_br h
theorem fp_nb {r : Int32} (h : r = 0 ∨ r = 1) : narrow .boolean (.int r) = .int r := by
  rcases h with rfl | rfl
  · rfl
  · rfl
section
variable {xic xoc xfc xhf xil xll xol xea xwr xcu xfo xsp xpo xbl xli xvu yic ysz yfd yls ymd ysa ytk ydp yps ybi ysp yus ynx yra yrd : Int32} {iK iA iB xM xO xS FK FA FB FM inp lst out vs xR xL yO yN yS yT : Nat → Int32}

theorem fp_k0 (a b : Int32) : ∃ ra rb ry : Int32, (ra = 0 ∨ ra = 1) ∧ (rb = 0 ∨ rb = 1) ∧ (∀ post : Int32 → Prop, post ra → wpX_fitsAsA post (xic, xoc, xfc, xhf, xil, xll, xol, xea, xwr, xcu, xfo, xsp, xpo, xbl, xli, xvu, iK, iA, iB, xM, xO, xS, FK, FA, FB, FM, inp, lst, out, vs, xR, xL) 0 a) ∧ (∀ post : Int32 → Prop, post rb → wpX_fitsAsB post (xic, xoc, xfc, xhf, xil, xll, xol, xea, xwr, xcu, xfo, xsp, xpo, xbl, xli, xvu, iK, iA, iB, xM, xO, xS, FK, FA, FB, FM, inp, lst, out, vs, xR, xL) 0 b) ∧ (∀ post : Int32 → Prop, post ry → wpY_fits post 0 a b) ∧ ((ra = 0 ∨ rb = 0) → ry = 0) ∧ (ra = 1 → rb = 1 → ry = 1 ∧ fw_It 0 a) := by
  refine ⟨fp_in a 1 4, fp_in b 0 31, if fp_in a 1 4 = 0 then 0 else fp_in b 0 31, fp_in01 _ _ _, fp_in01 _ _ _, fun post h => br_f (by decide) (br_f (by decide) (br_t (by decide) (fp_br h))), fun post h => br_f (by decide) (br_f (by decide) (br_t (by decide) (fp_br h))), fun post h => ?_, ?_, ?_⟩
  · refine br_f (by decide) (br_f (by decide) (br_t (by decide) (fp_w ?_)))
    rcases fp_in01 a 1 4 with z | z
    · rw [if_pos z] at h; rw [z]; exact br_t rfl h
    · rw [if_neg (by rw [z]; decide)] at h; rw [z]; refine br_f (by decide) (fp_w ?_)
      rcases fp_in01 b 0 31 with y | y
      · rw [y] at h ⊢; exact br_t rfl h
      · rw [y] at h ⊢; exact br_f (by decide) h
  · intro z
    by_cases y : fp_in a 1 4 = 0
    · rw [if_pos y]
    · rw [if_neg y]; exact z.resolve_left y
  · intro z1 z2
    rw [if_neg (by rw [z1]; decide)]
    exact ⟨z2, ⟨0, by decide, rfl, fun z => fp_1 (lo := 1) (hi := 4) z1 (by decide) (by decide), fun z => absurd z (by decide), fun z => absurd z (by decide)⟩⟩
theorem fp_k1 (a b : Int32) : ∃ ra rb ry : Int32, (ra = 0 ∨ ra = 1) ∧ (rb = 0 ∨ rb = 1) ∧ (∀ post : Int32 → Prop, post ra → wpX_fitsAsA post (xic, xoc, xfc, xhf, xil, xll, xol, xea, xwr, xcu, xfo, xsp, xpo, xbl, xli, xvu, iK, iA, iB, xM, xO, xS, FK, FA, FB, FM, inp, lst, out, vs, xR, xL) 1 a) ∧ (∀ post : Int32 → Prop, post rb → wpX_fitsAsB post (xic, xoc, xfc, xhf, xil, xll, xol, xea, xwr, xcu, xfo, xsp, xpo, xbl, xli, xvu, iK, iA, iB, xM, xO, xS, FK, FA, FB, FM, inp, lst, out, vs, xR, xL) 1 b) ∧ (∀ post : Int32 → Prop, post ry → wpY_fits post 1 a b) ∧ ((ra = 0 ∨ rb = 0) → ry = 0) ∧ (ra = 1 → rb = 1 → ry = 1 ∧ fw_It 1 a) := by
  refine ⟨1, fp_in b 0 7, fp_in b 0 7, Or.inr rfl, fp_in01 _ _ _, fun post h => br_f (by decide) (br_f (by decide) (br_f (by decide) (br_t (by decide) (h)))), fun post h => br_f (by decide) (br_f (by decide) (br_f (by decide) (br_t (by decide) (fp_br8 h)))), fun post h => ?_, ?_, ?_⟩
  · refine br_f (by decide) (br_f (by decide) (br_f (by decide) (br_t (by decide) (?_))))
    refine fp_w (br_f (by decide) (fp_w ?_))
    rcases fp_in01 b 0 7 with y | y
    · rw [y] at h ⊢; exact br_t rfl h
    · rw [y] at h ⊢; exact br_f (by decide) h
  · intro z; exact z.resolve_left (by decide)
  · intro z1 z2; exact ⟨z2, ⟨1, by decide, rfl, fun z => absurd z (by decide), fun z => absurd z (by decide), fun z => absurd z (by decide)⟩⟩
theorem fp_k2 (a b : Int32) : ∃ ra rb ry : Int32, (ra = 0 ∨ ra = 1) ∧ (rb = 0 ∨ rb = 1) ∧ (∀ post : Int32 → Prop, post ra → wpX_fitsAsA post (xic, xoc, xfc, xhf, xil, xll, xol, xea, xwr, xcu, xfo, xsp, xpo, xbl, xli, xvu, iK, iA, iB, xM, xO, xS, FK, FA, FB, FM, inp, lst, out, vs, xR, xL) 2 a) ∧ (∀ post : Int32 → Prop, post rb → wpX_fitsAsB post (xic, xoc, xfc, xhf, xil, xll, xol, xea, xwr, xcu, xfo, xsp, xpo, xbl, xli, xvu, iK, iA, iB, xM, xO, xS, FK, FA, FB, FM, inp, lst, out, vs, xR, xL) 2 b) ∧ (∀ post : Int32 → Prop, post ry → wpY_fits post 2 a b) ∧ ((ra = 0 ∨ rb = 0) → ry = 0) ∧ (ra = 1 → rb = 1 → ry = 1 ∧ fw_It 2 a) := by
  refine ⟨fp_in a 1 16, fp_in b 0 7, if fp_in a 1 16 = 0 then 0 else fp_in b 0 7, fp_in01 _ _ _, fp_in01 _ _ _, fun post h => br_f (by decide) (br_f (by decide) (br_f (by decide) (br_f (by decide) (br_t (by decide) (fp_br h))))), fun post h => br_f (by decide) (br_f (by decide) (br_f (by decide) (br_f (by decide) (br_t (by decide) (fp_br8 h))))), fun post h => ?_, ?_, ?_⟩
  · refine br_f (by decide) (br_f (by decide) (br_f (by decide) (br_f (by decide) (br_t (by decide) (fp_w ?_)))))
    rcases fp_in01 a 1 16 with z | z
    · rw [if_pos z] at h; rw [z]; exact br_t rfl h
    · rw [if_neg (by rw [z]; decide)] at h; rw [z]; refine br_f (by decide) (fp_w ?_)
      rcases fp_in01 b 0 7 with y | y
      · rw [y] at h ⊢; exact br_t rfl h
      · rw [y] at h ⊢; exact br_f (by decide) h
  · intro z
    by_cases y : fp_in a 1 16 = 0
    · rw [if_pos y]
    · rw [if_neg y]; exact z.resolve_left y
  · intro z1 z2
    rw [if_neg (by rw [z1]; decide)]
    exact ⟨z2, ⟨2, by decide, rfl, fun z => absurd z (by decide), fun z => fp_1 (lo := 1) (hi := 16) z1 (by decide) (by decide), fun z => absurd z (by decide)⟩⟩
theorem fp_k3 (a b : Int32) : ∃ ra rb ry : Int32, (ra = 0 ∨ ra = 1) ∧ (rb = 0 ∨ rb = 1) ∧ (∀ post : Int32 → Prop, post ra → wpX_fitsAsA post (xic, xoc, xfc, xhf, xil, xll, xol, xea, xwr, xcu, xfo, xsp, xpo, xbl, xli, xvu, iK, iA, iB, xM, xO, xS, FK, FA, FB, FM, inp, lst, out, vs, xR, xL) 3 a) ∧ (∀ post : Int32 → Prop, post rb → wpX_fitsAsB post (xic, xoc, xfc, xhf, xil, xll, xol, xea, xwr, xcu, xfo, xsp, xpo, xbl, xli, xvu, iK, iA, iB, xM, xO, xS, FK, FA, FB, FM, inp, lst, out, vs, xR, xL) 3 b) ∧ (∀ post : Int32 → Prop, post ry → wpY_fits post 3 a b) ∧ ((ra = 0 ∨ rb = 0) → ry = 0) ∧ (ra = 1 → rb = 1 → ry = 1 ∧ fw_It 3 a) := by
  refine ⟨fp_in a 0 255, 1, fp_in a 0 255, fp_in01 _ _ _, Or.inr rfl, fun post h => br_f (by decide) (br_f (by decide) (br_f (by decide) (br_f (by decide) (br_f (by decide) (br_t (by decide) (fp_br h)))))), fun post h => br_f (by decide) (br_f (by decide) (br_f (by decide) (br_f (by decide) (br_f (by decide) (br_t (by decide) (h)))))), fun post h => ?_, ?_, ?_⟩
  · exact br_f (by decide) (br_f (by decide) (br_f (by decide) (br_f (by decide) (br_f (by decide) (br_t (by decide) (fp_w ⟨fp_nb (fp_in01 _ _ _), h⟩))))))
  · intro z; exact z.resolve_right (by decide)
  · intro z1 z2; exact ⟨z1, ⟨3, by decide, rfl, fun z => absurd z (by decide), fun z => absurd z (by decide), fun z => absurd z (by decide)⟩⟩
theorem fp_k4 (a b : Int32) : ∃ ra rb ry : Int32, (ra = 0 ∨ ra = 1) ∧ (rb = 0 ∨ rb = 1) ∧ (∀ post : Int32 → Prop, post ra → wpX_fitsAsA post (xic, xoc, xfc, xhf, xil, xll, xol, xea, xwr, xcu, xfo, xsp, xpo, xbl, xli, xvu, iK, iA, iB, xM, xO, xS, FK, FA, FB, FM, inp, lst, out, vs, xR, xL) 4 a) ∧ (∀ post : Int32 → Prop, post rb → wpX_fitsAsB post (xic, xoc, xfc, xhf, xil, xll, xol, xea, xwr, xcu, xfo, xsp, xpo, xbl, xli, xvu, iK, iA, iB, xM, xO, xS, FK, FA, FB, FM, inp, lst, out, vs, xR, xL) 4 b) ∧ (∀ post : Int32 → Prop, post ry → wpY_fits post 4 a b) ∧ ((ra = 0 ∨ rb = 0) → ry = 0) ∧ (ra = 1 → rb = 1 → ry = 1 ∧ fw_It 4 a) := by
  refine ⟨1, fp_in b 0 7, fp_in b 0 7, Or.inr rfl, fp_in01 _ _ _, fun post h => br_f (by decide) (br_f (by decide) (br_f (by decide) (br_f (by decide) (br_f (by decide) (br_f (by decide) (br_t (by decide) (h))))))), fun post h => br_f (by decide) (br_f (by decide) (br_f (by decide) (br_f (by decide) (br_f (by decide) (br_f (by decide) (br_t (by decide) (fp_br8 h))))))), fun post h => ?_, ?_, ?_⟩
  · refine br_f (by decide) (br_f (by decide) (br_f (by decide) (br_f (by decide) (br_f (by decide) (br_f (by decide) (br_t (by decide) (?_)))))))
    refine fp_w (br_f (by decide) (fp_w ?_))
    rcases fp_in01 b 0 7 with y | y
    · rw [y] at h ⊢; exact br_t rfl h
    · rw [y] at h ⊢; exact br_f (by decide) h
  · intro z; exact z.resolve_left (by decide)
  · intro z1 z2; exact ⟨z2, ⟨4, by decide, rfl, fun z => absurd z (by decide), fun z => absurd z (by decide), fun z => absurd z (by decide)⟩⟩
theorem fp_k5 (a b : Int32) : ∃ ra rb ry : Int32, (ra = 0 ∨ ra = 1) ∧ (rb = 0 ∨ rb = 1) ∧ (∀ post : Int32 → Prop, post ra → wpX_fitsAsA post (xic, xoc, xfc, xhf, xil, xll, xol, xea, xwr, xcu, xfo, xsp, xpo, xbl, xli, xvu, iK, iA, iB, xM, xO, xS, FK, FA, FB, FM, inp, lst, out, vs, xR, xL) 5 a) ∧ (∀ post : Int32 → Prop, post rb → wpX_fitsAsB post (xic, xoc, xfc, xhf, xil, xll, xol, xea, xwr, xcu, xfo, xsp, xpo, xbl, xli, xvu, iK, iA, iB, xM, xO, xS, FK, FA, FB, FM, inp, lst, out, vs, xR, xL) 5 b) ∧ (∀ post : Int32 → Prop, post ry → wpY_fits post 5 a b) ∧ ((ra = 0 ∨ rb = 0) → ry = 0) ∧ (ra = 1 → rb = 1 → ry = 1 ∧ fw_It 5 a) := by
  refine ⟨1, fp_in b 0 7, fp_in b 0 7, Or.inr rfl, fp_in01 _ _ _, fun post h => br_f (by decide) (br_f (by decide) (br_f (by decide) (br_f (by decide) (br_f (by decide) (br_f (by decide) (br_f (by decide) (br_t (by decide) (h)))))))), fun post h => br_f (by decide) (br_f (by decide) (br_f (by decide) (br_f (by decide) (br_f (by decide) (br_f (by decide) (br_f (by decide) (br_t (by decide) (fp_br8 h)))))))), fun post h => ?_, ?_, ?_⟩
  · refine br_f (by decide) (br_f (by decide) (br_f (by decide) (br_f (by decide) (br_f (by decide) (br_f (by decide) (br_f (by decide) (br_t (by decide) (?_))))))))
    refine fp_w (br_f (by decide) (fp_w ?_))
    rcases fp_in01 b 0 7 with y | y
    · rw [y] at h ⊢; exact br_t rfl h
    · rw [y] at h ⊢; exact br_f (by decide) h
  · intro z; exact z.resolve_left (by decide)
  · intro z1 z2; exact ⟨z2, ⟨5, by decide, rfl, fun z => absurd z (by decide), fun z => absurd z (by decide), fun z => absurd z (by decide)⟩⟩
theorem fp_k6 (a b : Int32) : ∃ ra rb ry : Int32, (ra = 0 ∨ ra = 1) ∧ (rb = 0 ∨ rb = 1) ∧ (∀ post : Int32 → Prop, post ra → wpX_fitsAsA post (xic, xoc, xfc, xhf, xil, xll, xol, xea, xwr, xcu, xfo, xsp, xpo, xbl, xli, xvu, iK, iA, iB, xM, xO, xS, FK, FA, FB, FM, inp, lst, out, vs, xR, xL) 6 a) ∧ (∀ post : Int32 → Prop, post rb → wpX_fitsAsB post (xic, xoc, xfc, xhf, xil, xll, xol, xea, xwr, xcu, xfo, xsp, xpo, xbl, xli, xvu, iK, iA, iB, xM, xO, xS, FK, FA, FB, FM, inp, lst, out, vs, xR, xL) 6 b) ∧ (∀ post : Int32 → Prop, post ry → wpY_fits post 6 a b) ∧ ((ra = 0 ∨ rb = 0) → ry = 0) ∧ (ra = 1 → rb = 1 → ry = 1 ∧ fw_It 6 a) := by
  refine ⟨1, fp_in b 0 7, fp_in b 0 7, Or.inr rfl, fp_in01 _ _ _, fun post h => br_f (by decide) (br_f (by decide) (br_f (by decide) (br_f (by decide) (br_f (by decide) (br_f (by decide) (br_f (by decide) (br_f (by decide) (br_t (by decide) (h))))))))), fun post h => br_f (by decide) (br_f (by decide) (br_f (by decide) (br_f (by decide) (br_f (by decide) (br_f (by decide) (br_f (by decide) (br_f (by decide) (br_t (by decide) (fp_br8 h))))))))), fun post h => ?_, ?_, ?_⟩
  · refine br_f (by decide) (br_f (by decide) (br_f (by decide) (br_f (by decide) (br_f (by decide) (br_f (by decide) (br_f (by decide) (br_f (by decide) (br_t (by decide) (?_)))))))))
    refine fp_w (br_f (by decide) (fp_w ?_))
    rcases fp_in01 b 0 7 with y | y
    · rw [y] at h ⊢; exact br_t rfl h
    · rw [y] at h ⊢; exact br_f (by decide) h
  · intro z; exact z.resolve_left (by decide)
  · intro z1 z2; exact ⟨z2, ⟨6, by decide, rfl, fun z => absurd z (by decide), fun z => absurd z (by decide), fun z => absurd z (by decide)⟩⟩
theorem fp_k7 (a b : Int32) : ∃ ra rb ry : Int32, (ra = 0 ∨ ra = 1) ∧ (rb = 0 ∨ rb = 1) ∧ (∀ post : Int32 → Prop, post ra → wpX_fitsAsA post (xic, xoc, xfc, xhf, xil, xll, xol, xea, xwr, xcu, xfo, xsp, xpo, xbl, xli, xvu, iK, iA, iB, xM, xO, xS, FK, FA, FB, FM, inp, lst, out, vs, xR, xL) 7 a) ∧ (∀ post : Int32 → Prop, post rb → wpX_fitsAsB post (xic, xoc, xfc, xhf, xil, xll, xol, xea, xwr, xcu, xfo, xsp, xpo, xbl, xli, xvu, iK, iA, iB, xM, xO, xS, FK, FA, FB, FM, inp, lst, out, vs, xR, xL) 7 b) ∧ (∀ post : Int32 → Prop, post ry → wpY_fits post 7 a b) ∧ ((ra = 0 ∨ rb = 0) → ry = 0) ∧ (ra = 1 → rb = 1 → ry = 1 ∧ fw_It 7 a) := by
  refine ⟨1, 1, 1, Or.inr rfl, Or.inr rfl, fun post h => br_f (by decide) (br_f (by decide) (br_f (by decide) (br_f (by decide) (br_f (by decide) (br_f (by decide) (br_f (by decide) (br_f (by decide) (br_f (by decide) (br_t (by decide) (h)))))))))), fun post h => br_f (by decide) (br_f (by decide) (br_f (by decide) (br_f (by decide) (br_f (by decide) (br_f (by decide) (br_f (by decide) (br_f (by decide) (br_f (by decide) (br_t (by decide) (h)))))))))), fun post h => ?_, ?_, ?_⟩
  · exact br_f (by decide) (br_f (by decide) (br_f (by decide) (br_f (by decide) (br_f (by decide) (br_f (by decide) (br_f (by decide) (br_f (by decide) (br_f (by decide) (br_t (by decide) (h))))))))))
  · intro z; exact absurd z (by decide)
  · intro z1 z2; exact ⟨rfl, ⟨7, by decide, rfl, fun z => absurd z (by decide), fun z => absurd z (by decide), fun z => absurd z (by decide)⟩⟩
theorem fp_k8 (a b : Int32) : ∃ ra rb ry : Int32, (ra = 0 ∨ ra = 1) ∧ (rb = 0 ∨ rb = 1) ∧ (∀ post : Int32 → Prop, post ra → wpX_fitsAsA post (xic, xoc, xfc, xhf, xil, xll, xol, xea, xwr, xcu, xfo, xsp, xpo, xbl, xli, xvu, iK, iA, iB, xM, xO, xS, FK, FA, FB, FM, inp, lst, out, vs, xR, xL) 8 a) ∧ (∀ post : Int32 → Prop, post rb → wpX_fitsAsB post (xic, xoc, xfc, xhf, xil, xll, xol, xea, xwr, xcu, xfo, xsp, xpo, xbl, xli, xvu, iK, iA, iB, xM, xO, xS, FK, FA, FB, FM, inp, lst, out, vs, xR, xL) 8 b) ∧ (∀ post : Int32 → Prop, post ry → wpY_fits post 8 a b) ∧ ((ra = 0 ∨ rb = 0) → ry = 0) ∧ (ra = 1 → rb = 1 → ry = 1 ∧ fw_It 8 a) := by
  refine ⟨fp_in a 2 8, 1, fp_in a 2 8, fp_in01 _ _ _, Or.inr rfl, fun post h => br_f (by decide) (br_f (by decide) (br_f (by decide) (br_f (by decide) (br_f (by decide) (br_f (by decide) (br_f (by decide) (br_f (by decide) (br_f (by decide) (br_f (by decide) (br_t (by decide) (fp_br h))))))))))), fun post h => br_f (by decide) (br_f (by decide) (br_f (by decide) (br_f (by decide) (br_f (by decide) (br_f (by decide) (br_f (by decide) (br_f (by decide) (br_f (by decide) (br_f (by decide) (br_t (by decide) (h))))))))))), fun post h => ?_, ?_, ?_⟩
  · exact br_f (by decide) (br_f (by decide) (br_f (by decide) (br_f (by decide) (br_f (by decide) (br_f (by decide) (br_f (by decide) (br_f (by decide) (br_f (by decide) (br_f (by decide) (br_t (by decide) (fp_w ⟨fp_nb (fp_in01 _ _ _), h⟩)))))))))))
  · intro z; exact z.resolve_right (by decide)
  · intro z1 z2; exact ⟨z1, ⟨8, by decide, rfl, fun z => absurd z (by decide), fun z => absurd z (by decide), fun z => fp_1 (lo := 2) (hi := 8) z1 (by decide) (by decide)⟩⟩
theorem fp_k9 (a b : Int32) : ∃ ra rb ry : Int32, (ra = 0 ∨ ra = 1) ∧ (rb = 0 ∨ rb = 1) ∧ (∀ post : Int32 → Prop, post ra → wpX_fitsAsA post (xic, xoc, xfc, xhf, xil, xll, xol, xea, xwr, xcu, xfo, xsp, xpo, xbl, xli, xvu, iK, iA, iB, xM, xO, xS, FK, FA, FB, FM, inp, lst, out, vs, xR, xL) 9 a) ∧ (∀ post : Int32 → Prop, post rb → wpX_fitsAsB post (xic, xoc, xfc, xhf, xil, xll, xol, xea, xwr, xcu, xfo, xsp, xpo, xbl, xli, xvu, iK, iA, iB, xM, xO, xS, FK, FA, FB, FM, inp, lst, out, vs, xR, xL) 9 b) ∧ (∀ post : Int32 → Prop, post ry → wpY_fits post 9 a b) ∧ ((ra = 0 ∨ rb = 0) → ry = 0) ∧ (ra = 1 → rb = 1 → ry = 1 ∧ fw_It 9 a) := by
  refine ⟨1, fp_in b 0 7, fp_in b 0 7, Or.inr rfl, fp_in01 _ _ _, fun post h => br_f (by decide) (br_t (by decide) (h)), fun post h => br_f (by decide) (br_f (by decide) (br_f (by decide) (br_f (by decide) (br_f (by decide) (br_f (by decide) (br_f (by decide) (br_f (by decide) (br_f (by decide) (br_f (by decide) (br_f (by decide) (br_t (by decide) (fp_br8 h)))))))))))), fun post h => ?_, ?_, ?_⟩
  · refine br_f (by decide) (br_f (by decide) (br_f (by decide) (br_f (by decide) (br_f (by decide) (br_f (by decide) (br_f (by decide) (br_f (by decide) (br_f (by decide) (br_f (by decide) (br_f (by decide) (br_t (by decide) (?_))))))))))))
    refine fp_w (br_f (by decide) (fp_w ?_))
    rcases fp_in01 b 0 7 with y | y
    · rw [y] at h ⊢; exact br_t rfl h
    · rw [y] at h ⊢; exact br_f (by decide) h
  · intro z; exact z.resolve_left (by decide)
  · intro z1 z2; exact ⟨z2, ⟨9, by decide, rfl, fun z => absurd z (by decide), fun z => absurd z (by decide), fun z => absurd z (by decide)⟩⟩
theorem fp_k10 (a b : Int32) : ∃ ra rb ry : Int32, (ra = 0 ∨ ra = 1) ∧ (rb = 0 ∨ rb = 1) ∧ (∀ post : Int32 → Prop, post ra → wpX_fitsAsA post (xic, xoc, xfc, xhf, xil, xll, xol, xea, xwr, xcu, xfo, xsp, xpo, xbl, xli, xvu, iK, iA, iB, xM, xO, xS, FK, FA, FB, FM, inp, lst, out, vs, xR, xL) 10 a) ∧ (∀ post : Int32 → Prop, post rb → wpX_fitsAsB post (xic, xoc, xfc, xhf, xil, xll, xol, xea, xwr, xcu, xfo, xsp, xpo, xbl, xli, xvu, iK, iA, iB, xM, xO, xS, FK, FA, FB, FM, inp, lst, out, vs, xR, xL) 10 b) ∧ (∀ post : Int32 → Prop, post ry → wpY_fits post 10 a b) ∧ ((ra = 0 ∨ rb = 0) → ry = 0) ∧ (ra = 1 → rb = 1 → ry = 1 ∧ fw_It 10 a) := by
  refine ⟨1, fp_in b 0 7, fp_in b 0 7, Or.inr rfl, fp_in01 _ _ _, fun post h => br_f (by decide) (br_t (by decide) (h)), fun post h => br_f (by decide) (br_f (by decide) (br_f (by decide) (br_f (by decide) (br_f (by decide) (br_f (by decide) (br_f (by decide) (br_f (by decide) (br_f (by decide) (br_f (by decide) (br_f (by decide) (br_f (by decide) (br_t (by decide) (fp_br8 h))))))))))))), fun post h => ?_, ?_, ?_⟩
  · refine br_f (by decide) (br_f (by decide) (br_f (by decide) (br_f (by decide) (br_f (by decide) (br_f (by decide) (br_f (by decide) (br_f (by decide) (br_f (by decide) (br_f (by decide) (br_f (by decide) (br_f (by decide) (br_t (by decide) (?_)))))))))))))
    refine fp_w (br_f (by decide) (fp_w ?_))
    rcases fp_in01 b 0 7 with y | y
    · rw [y] at h ⊢; exact br_t rfl h
    · rw [y] at h ⊢; exact br_f (by decide) h
  · intro z; exact z.resolve_left (by decide)
  · intro z1 z2; exact ⟨z2, ⟨10, by decide, rfl, fun z => absurd z (by decide), fun z => absurd z (by decide), fun z => absurd z (by decide)⟩⟩
theorem fp_k11 (a b : Int32) : ∃ ra rb ry : Int32, (ra = 0 ∨ ra = 1) ∧ (rb = 0 ∨ rb = 1) ∧ (∀ post : Int32 → Prop, post ra → wpX_fitsAsA post (xic, xoc, xfc, xhf, xil, xll, xol, xea, xwr, xcu, xfo, xsp, xpo, xbl, xli, xvu, iK, iA, iB, xM, xO, xS, FK, FA, FB, FM, inp, lst, out, vs, xR, xL) 11 a) ∧ (∀ post : Int32 → Prop, post rb → wpX_fitsAsB post (xic, xoc, xfc, xhf, xil, xll, xol, xea, xwr, xcu, xfo, xsp, xpo, xbl, xli, xvu, iK, iA, iB, xM, xO, xS, FK, FA, FB, FM, inp, lst, out, vs, xR, xL) 11 b) ∧ (∀ post : Int32 → Prop, post ry → wpY_fits post 11 a b) ∧ ((ra = 0 ∨ rb = 0) → ry = 0) ∧ (ra = 1 → rb = 1 → ry = 1 ∧ fw_It 11 a) := by
  refine ⟨1, fp_in b 0 7, fp_in b 0 7, Or.inr rfl, fp_in01 _ _ _, fun post h => br_f (by decide) (br_t (by decide) (h)), fun post h => br_f (by decide) (br_f (by decide) (br_f (by decide) (br_f (by decide) (br_f (by decide) (br_f (by decide) (br_f (by decide) (br_f (by decide) (br_f (by decide) (br_f (by decide) (br_f (by decide) (br_f (by decide) (br_f (by decide) (br_t (by decide) (fp_br8 h)))))))))))))), fun post h => ?_, ?_, ?_⟩
  · refine br_f (by decide) (br_f (by decide) (br_f (by decide) (br_f (by decide) (br_f (by decide) (br_f (by decide) (br_f (by decide) (br_f (by decide) (br_f (by decide) (br_f (by decide) (br_f (by decide) (br_f (by decide) (br_f (by decide) (br_t (by decide) (?_))))))))))))))
    refine fp_w (br_f (by decide) (fp_w ?_))
    rcases fp_in01 b 0 7 with y | y
    · rw [y] at h ⊢; exact br_t rfl h
    · rw [y] at h ⊢; exact br_f (by decide) h
  · intro z; exact z.resolve_left (by decide)
  · intro z1 z2; exact ⟨z2, ⟨11, by decide, rfl, fun z => absurd z (by decide), fun z => absurd z (by decide), fun z => absurd z (by decide)⟩⟩
theorem fp_k12 (a b : Int32) : ∃ ra rb ry : Int32, (ra = 0 ∨ ra = 1) ∧ (rb = 0 ∨ rb = 1) ∧ (∀ post : Int32 → Prop, post ra → wpX_fitsAsA post (xic, xoc, xfc, xhf, xil, xll, xol, xea, xwr, xcu, xfo, xsp, xpo, xbl, xli, xvu, iK, iA, iB, xM, xO, xS, FK, FA, FB, FM, inp, lst, out, vs, xR, xL) 12 a) ∧ (∀ post : Int32 → Prop, post rb → wpX_fitsAsB post (xic, xoc, xfc, xhf, xil, xll, xol, xea, xwr, xcu, xfo, xsp, xpo, xbl, xli, xvu, iK, iA, iB, xM, xO, xS, FK, FA, FB, FM, inp, lst, out, vs, xR, xL) 12 b) ∧ (∀ post : Int32 → Prop, post ry → wpY_fits post 12 a b) ∧ ((ra = 0 ∨ rb = 0) → ry = 0) ∧ (ra = 1 → rb = 1 → ry = 1 ∧ fw_It 12 a) := by
  refine ⟨1, 1, 1, Or.inr rfl, Or.inr rfl, fun post h => br_f (by decide) (br_t (by decide) (h)), fun post h => br_f (by decide) (br_f (by decide) (br_f (by decide) (br_f (by decide) (br_f (by decide) (br_f (by decide) (br_f (by decide) (br_f (by decide) (br_f (by decide) (br_f (by decide) (br_f (by decide) (br_f (by decide) (br_f (by decide) (br_f (by decide) (br_t (by decide) (h))))))))))))))), fun post h => ?_, ?_, ?_⟩
  · exact br_f (by decide) (br_f (by decide) (br_f (by decide) (br_f (by decide) (br_f (by decide) (br_f (by decide) (br_f (by decide) (br_f (by decide) (br_f (by decide) (br_f (by decide) (br_f (by decide) (br_f (by decide) (br_f (by decide) (br_f (by decide) (br_t (by decide) (h)))))))))))))))
  · intro z; exact absurd z (by decide)
  · intro z1 z2; exact ⟨rfl, ⟨12, by decide, rfl, fun z => absurd z (by decide), fun z => absurd z (by decide), fun z => absurd z (by decide)⟩⟩
theorem fp_k13 (a b : Int32) : ∃ ra rb ry : Int32, (ra = 0 ∨ ra = 1) ∧ (rb = 0 ∨ rb = 1) ∧ (∀ post : Int32 → Prop, post ra → wpX_fitsAsA post (xic, xoc, xfc, xhf, xil, xll, xol, xea, xwr, xcu, xfo, xsp, xpo, xbl, xli, xvu, iK, iA, iB, xM, xO, xS, FK, FA, FB, FM, inp, lst, out, vs, xR, xL) 13 a) ∧ (∀ post : Int32 → Prop, post rb → wpX_fitsAsB post (xic, xoc, xfc, xhf, xil, xll, xol, xea, xwr, xcu, xfo, xsp, xpo, xbl, xli, xvu, iK, iA, iB, xM, xO, xS, FK, FA, FB, FM, inp, lst, out, vs, xR, xL) 13 b) ∧ (∀ post : Int32 → Prop, post ry → wpY_fits post 13 a b) ∧ ((ra = 0 ∨ rb = 0) → ry = 0) ∧ (ra = 1 → rb = 1 → ry = 1 ∧ fw_It 13 a) := by
  refine ⟨1, 1, 1, Or.inr rfl, Or.inr rfl, fun post h => br_f (by decide) (br_t (by decide) (h)), fun post h => br_f (by decide) (br_f (by decide) (br_f (by decide) (br_f (by decide) (br_f (by decide) (br_f (by decide) (br_f (by decide) (br_f (by decide) (br_f (by decide) (br_f (by decide) (br_f (by decide) (br_f (by decide) (br_f (by decide) (br_f (by decide) (br_f (by decide) (br_t (by decide) (h)))))))))))))))), fun post h => ?_, ?_, ?_⟩
  · exact br_f (by decide) (br_f (by decide) (br_f (by decide) (br_f (by decide) (br_f (by decide) (br_f (by decide) (br_f (by decide) (br_f (by decide) (br_f (by decide) (br_f (by decide) (br_f (by decide) (br_f (by decide) (br_f (by decide) (br_f (by decide) (br_f (by decide) (br_t (by decide) (h))))))))))))))))
  · intro z; exact absurd z (by decide)
  · intro z1 z2; exact ⟨rfl, ⟨13, by decide, rfl, fun z => absurd z (by decide), fun z => absurd z (by decide), fun z => absurd z (by decide)⟩⟩
theorem fp_all (a b : Int32) {c : Nat} (hc : c ≤ 13) : ∃ ra rb ry : Int32, (ra = 0 ∨ ra = 1) ∧ (rb = 0 ∨ rb = 1) ∧ (∀ post : Int32 → Prop, post ra → wpX_fitsAsA post (xic, xoc, xfc, xhf, xil, xll, xol, xea, xwr, xcu, xfo, xsp, xpo, xbl, xli, xvu, iK, iA, iB, xM, xO, xS, FK, FA, FB, FM, inp, lst, out, vs, xR, xL) (nI c) a) ∧ (∀ post : Int32 → Prop, post rb → wpX_fitsAsB post (xic, xoc, xfc, xhf, xil, xll, xol, xea, xwr, xcu, xfo, xsp, xpo, xbl, xli, xvu, iK, iA, iB, xM, xO, xS, FK, FA, FB, FM, inp, lst, out, vs, xR, xL) (nI c) b) ∧ (∀ post : Int32 → Prop, post ry → wpY_fits post (nI c) a b) ∧ ((ra = 0 ∨ rb = 0) → ry = 0) ∧ (ra = 1 → rb = 1 → ry = 1 ∧ fw_It (nI c) a) := by
  have h : c = 0 ∨ c = 1 ∨ c = 2 ∨ c = 3 ∨ c = 4 ∨ c = 5 ∨ c = 6 ∨ c = 7 ∨ c = 8 ∨ c = 9 ∨ c = 10 ∨ c = 11 ∨ c = 12 ∨ c = 13 := by omega
  rcases h with rfl | rfl | rfl | rfl | rfl | rfl | rfl | rfl | rfl | rfl | rfl | rfl | rfl | rfl
  · exact fp_k0 a b
  · exact fp_k1 a b
  · exact fp_k2 a b
  · exact fp_k3 a b
  · exact fp_k4 a b
  · exact fp_k5 a b
  · exact fp_k6 a b
  · exact fp_k7 a b
  · exact fp_k8 a b
  · exact fp_k9 a b
  · exact fp_k10 a b
  · exact fp_k11 a b
  · exact fp_k12 a b
  · exact fp_k13 a b
theorem fp_neg {k a b : Int32} (h : k < 0) : ∀ post : Int32 → Prop, post 0 → wpY_fits post k a b := by
  intro post hp
  refine br_t h ?_
  refine fp_w ?_
  have e : fp_in k 0 13 = 0 := by unfold fp_in; rw [if_pos h]
  rw [e]
  exact br_t rfl hp
theorem fp_big {k a b : Int32} (h0 : ¬ k < 0) (h : 13 < k) : ∀ post : Int32 → Prop, post 0 → wpY_fits post k a b := by
  intro post hp
  refine br_f h0 (br_t h ?_)
  refine fp_w ?_
  have e : fp_in k 0 13 = 0 := by unfold fp_in; rw [if_neg h0, if_pos h]
  rw [e]
  exact br_t rfl hp
end
theorem i_vc_put {k : Nat} {u : SX} {v : SY} (I : i_Rel k u v) (hk : k + 4 ≤ 2048) (v1 : Int32) (v2 : Int32) (v3 : Int32) : wpX_put (fun r u' => wpY_put (fun r' v' => r' = r ∧ i_Rel (k + 4) u' v') v v1 v2 v3) u v1 v2 v3 := by
  have J := I
  obtain ⟨xic, xoc, xfc, xhf, xil, xll, xol, xea, xwr, xcu, xfo, xsp, xpo, xbl, xli, xvu, iK, iA, iB, xM, xO, xS, FK, FA, FB, FM, inp, lst, out, vs, xR, xL⟩ := u
  obtain ⟨yic, ysz, yfd, yls, ymd, ysa, ytk, ydp, yps, ybi, ysp, yus, ynx, yra, yrd, yK, yA, yB, zK, zA, zB, yin, ylst, yout, yvs, yO, yN, yS, yT⟩ := v
  obtain ⟨n, fd, ll, md, rfl, rfl, rfl, rfl, rfl, rfl, rfl, rfl, rfl, rfl, rfl, rfl, rfl, rfl, rfl, rfl, rfl, rfl, rfl, rfl, h1, h2, h3, h4, h5, h6⟩ := I
  have hE : n = 40 → nI n = (40 : Int32) := fun e => by rw [e]; rfl
  have hN : n < 40 → ¬ nI n = (40 : Int32) := fun e z => by
    have := (nI_eq (a := n) (b := 40) (by omega) (by omega)).mp z
    omega
  have hYf : ∀ ry : Int32, (ry = 0 ∨ ry = 1) → (ry = 1 → n = 40) → (∀ post : Int32 → Prop, post ry → wpY_fits post v1 v2 v3) → wpY_put (fun r' v' => r' = -1 ∧ i_Rel (k + 4) (nI n, xoc, xfc, xhf, nI fd, nI ll, nI md, xea, xwr, xcu, xfo, xsp, xpo, xbl, xli, xvu, iK, iA, iB, xM, xO, xS, FK, FA, FB, FM, inp, lst, out, vs, xR, xL) v') (nI n, ysz, nI fd, nI ll, nI md, xea, xpo, ydp, yps, ybi, ysp, yus, ynx, yra, yrd, iK, iA, iB, FK, FA, FB, inp, lst, out, vs, yO, yN, yS, yT) v1 v2 v3 := by
    intro ry h01 hn H
    unfold wpY_put
    dsimp only
    refine H _ ?_
    rcases h01 with rfl | rfl
    · exact br_t rfl ⟨rfl, J⟩
    · exact br_f (by decide) (br_t (hE (hn rfl)) ⟨rfl, J⟩)
  by_cases c0 : v1 < 0
  · have Y := hYf 0 (Or.inl rfl) (fun z => absurd z (by decide)) (fp_neg c0)
    by_cases c40 : (40 : Int32) ≤ nI n
    · exact br_t c40 Y
    · exact br_f c40 (br_t c0 Y)
  · by_cases c13 : v1 ≤ 13
    · obtain ⟨c, hc, rfl⟩ := nI_of2 (n := 13) (by decide) c0 c13
      obtain ⟨ra, rb, ry, qa, qb, HA, HB, HY, z0, z1⟩ := fp_all v2 v3 hc (xic := nI n) (xoc := xoc) (xfc := xfc) (xhf := xhf) (xil := nI fd) (xll := nI ll) (xol := nI md) (xea := xea) (xwr := xwr) (xcu := xcu) (xfo := xfo) (xsp := xsp) (xpo := xpo) (xbl := xbl) (xli := xli) (xvu := xvu) (iK := iK) (iA := iA) (iB := iB) (xM := xM) (xO := xO) (xS := xS) (FK := FK) (FA := FA) (FB := FB) (FM := FM) (inp := inp) (lst := lst) (out := out) (vs := vs) (xR := xR) (xL := xL)
      have qy : ry = 0 ∨ ry = 1 := by
        rcases qa with qa | qa
        · exact Or.inl (z0 (Or.inl qa))
        · rcases qb with qb | qb
          · exact Or.inl (z0 (Or.inr qb))
          · exact Or.inr (z1 qa qb).1
      by_cases hn : n < 40
      · have c40 : ¬ (40 : Int32) ≤ nI n := nI_ge (b := 40) hn (by decide)
        refine br_f c40 (br_f c0 (br_t c13 (HA _ ?_)))
        rcases qa with rfl | rfl
        · refine br_t rfl (hYf ry qy (fun z => ?_) HY)
          have := z0 (Or.inl rfl)
          rw [this] at z
          exact absurd z (by decide)
        · refine br_f (by decide) (HB _ ?_)
          rcases qb with rfl | rfl
          · refine br_t rfl (hYf ry qy (fun z => ?_) HY)
            have := z0 (Or.inr rfl)
            rw [this] at z
            exact absurd z (by decide)
          · obtain ⟨rfl, hit⟩ := z1 rfl rfl
            have hi : vp_in (nI n) 40 := vp_in_nI hn (by omega)
            have ec : (nI n).toNatClampNeg = n := nI_clamp (by omega)
            have e1 : nI n + 1 = nI (n + 1) := nI_1 n
            refine br_f (by decide) ⟨hi, nm_r (by rw [ec]) ⟨hi, nm_r (by rw [ec]) ⟨hi, nm_r (by rw [ec]) (nm_r e1 ?_)⟩⟩⟩
            unfold wpY_put
            dsimp only
            refine HY _ (br_f (by decide) (br_f (hN hn) ⟨hi, nm_r (by rw [ec]) ⟨hi, nm_r (by rw [ec]) (nm_r e1 ⟨hi, nm_r (by rw [ec]) ?_⟩)⟩⟩))
            refine ⟨rfl, n + 1, fd, ll, md, rfl, rfl, rfl, rfl, rfl, rfl, rfl, rfl, rfl, rfl, rfl, rfl, rfl, rfl, rfl, rfl, rfl, rfl, rfl, rfl, hn, h2, h3, h4, ?_, h6⟩
            intro j hj
            by_cases e : j = n
            · subst e
              rw [pk_us, pk_us]
              exact hit
            · rw [pk_un e, pk_un e]
              exact h5 j (by omega)
      · have c40 : (40 : Int32) ≤ nI n := nI_le (a := 40) (by omega) (by omega)
        exact br_t c40 (hYf ry qy (fun _ => by omega) HY)
    · have c13' : 13 < v1 := Int32.not_le.mp c13
      have Y := hYf 0 (Or.inl rfl) (fun z => absurd z (by decide)) (fp_big c0 c13')
      by_cases c40 : (40 : Int32) ≤ nI n
      · exact br_t c40 Y
      · exact br_f c40 (br_f c0 (br_f c13 Y))
end
section
/-! compile: how the items nest -/
def fw_T (K xO yO : Nat → Int32) : List (Nat × Nat) → Prop
  | [] => True
  | (o, e) :: s => xO s.length = nI o ∧ (e = 0 → yO s.length = K o) ∧ (e ≠ 0 → yO s.length = 12) ∧ fw_T K xO yO s
theorem fw_T_fr {K xO yO xO' yO' : Nat → Int32} : ∀ s : List (Nat × Nat), fw_T K xO yO s → (∀ d, d < s.length → xO' d = xO d ∧ yO' d = yO d) → fw_T K xO' yO' s := by
  intro s
  induction s with
  | nil => intro _ _; trivial
  | cons a s ih =>
    intro h hd
    obtain ⟨o, e⟩ := a
    obtain ⟨p1, p2, p3, p4⟩ := h
    obtain ⟨d1, d2⟩ := hd s.length (Nat.lt_succ_self _)
    exact ⟨by rw [d1]; exact p1, fun z => by rw [d2]; exact p2 z, fun z => by rw [d2]; exact p3 z, ih p4 (fun d hd' => hd d (Nat.lt_succ_of_lt hd'))⟩
theorem fx_m1 {i : Nat} (h : i < 2 ^ 31) : ¬ nI i = -1 := fun z => nI_pos h (by rw [z]; decide)
theorem fx_op4 {k : Int32} (h : k = 4 ∨ k = 5 ∨ k = 6) : ¬ k < 4 ∧ ¬ 6 < k ∧ ¬ k = 12 ∧ ¬ k = 13 ∧ k ≤ 6 := by
  rcases h with rfl | rfl | rfl <;> decide
theorem fx_no4 {c : Nat} (hc : c ≤ 13) (h : ¬ (nI c = 4 ∨ nI c = 5 ∨ nI c = 6)) : nI c < 4 ∨ (¬ nI c < 4 ∧ 6 < nI c ∧ ¬ nI c ≤ 6) := by
  by_cases h4 : c < 4
  · exact Or.inl (nI_lt (b := 4) h4 (by decide))
  · have h7 : 7 ≤ c := by
      rcases Nat.lt_or_ge c 7 with z | z
      · exfalso
        have : c = 4 ∨ c = 5 ∨ c = 6 := by omega
        apply h
        rcases this with rfl | rfl | rfl
        · exact Or.inl rfl
        · exact Or.inr (Or.inl rfl)
        · exact Or.inr (Or.inr rfl)
      · exact z
    exact Or.inr ⟨nI_nlt (b := 4) (by omega) (by omega), nI_lt (a := 6) (by omega) (by omega), nI_ge (a := 6) (by omega) (by omega)⟩
section
variable {xic xoc xfc xhf xil xll xol xea xwr xcu xfo xsp xpo xbl xli xvu yic ysz yfd yls ymd ysa ytk ydp yps ybi ysp yus ynx yra yrd : Int32} {iK iA iB xM xO xS FK FA FB FM inp lst out vs xR xL yO yN yS yT : Nat → Int32}
theorem fx_op1 {post : Int32 → Prop} {k : Int32} (h : k = 4 ∨ k = 5 ∨ k = 6) (hp : post 1) : wpX_opens post (xic, xoc, xfc, xhf, xil, xll, xol, xea, xwr, xcu, xfo, xsp, xpo, xbl, xli, xvu, iK, iA, iB, xM, xO, xS, FK, FA, FB, FM, inp, lst, out, vs, xR, xL) k := by
  by_cases h4 : k = 4
  · exact br_t h4 hp
  · by_cases h5 : k = 5
    · exact br_f h4 (br_t h5 hp)
    · exact br_f h4 (br_f h5 (br_t ((h.resolve_left h4).resolve_left h5) hp))
theorem fx_op0 {post : Int32 → Prop} {k : Int32} (h : ¬ (k = 4 ∨ k = 5 ∨ k = 6)) (hp : post 0) : wpX_opens post (xic, xoc, xfc, xhf, xil, xll, xol, xea, xwr, xcu, xfo, xsp, xpo, xbl, xli, xvu, iK, iA, iB, xM, xO, xS, FK, FA, FB, FM, inp, lst, out, vs, xR, xL) k :=
  br_f (fun z => h (Or.inl z)) (br_f (fun z => h (Or.inr (Or.inl z))) (br_f (fun z => h (Or.inr (Or.inr z))) hp))
theorem fc_lock {n : Nat} (hn : n ≤ 40) (hK : ∀ j, j < n → ∃ c : Nat, c ≤ 13 ∧ iK j = nI c) : ∀ (d i oc : Nat) (xO xM yO : Nat → Int32), i + d = n → fw_Wf iK i → (fw_st iK i).length = oc → fw_T iK xO yO (fw_st iK i) → fw_Mt iK xM i → fw_Mo iK xM i →
    ∃ (r oc' : Int32) (xO' xM' yO' : Nat → Int32), (∀ post : Int32 → SX → Prop, post r (nI n, oc', xfc, xhf, xil, xll, xol, xea, xwr, xcu, xfo, xsp, xpo, xbl, xli, xvu, iK, iA, iB, xM', xO', xS, FK, FA, FB, FM, inp, lst, out, vs, xR, xL) → wX_findStructureFault_7 post (d + 1) (nI i) (nI n) (nI oc) xfc xhf xil xll xol xea xwr xcu xfo xsp xpo xbl xli xvu iK iA iB xM xO xS FK FA FB FM inp lst out vs xR xL) ∧ (∀ post : Int32 → SY → Prop, post r (nI n, ysz, yfd, yls, ymd, ysa, ytk, ydp, yps, ybi, ysp, yus, ynx, yra, yrd, iK, iA, iB, FK, FA, FB, inp, lst, out, vs, yO', yN, yS, yT) → wY_loose_4 post (nI n) ysz yfd yls ymd ysa ytk ydp yps ybi ysp yus ynx yra yrd (d + 1) (nI oc) (nI i) iK iA iB FK FA FB inp lst out vs yO yN yS yT) ∧ ((r = -1 ∧ fw_Good iK xM' n) ∨ (¬ r < 0 ∧ ¬ r = -1)) := by
  intro d
  induction d with
  | zero =>
    intro i oc xO xM yO hi W hoc hT hM hO
    have ei : i = n := by omega
    rw [ei] at W hoc hT hM hO
    rw [ei]
    have c1 : nI n ≤ nI n := nI_le (by omega) (by omega)
    cases hs : fw_st iK n with
    | nil =>
      rw [hs] at hoc
      have e0 : oc = 0 := hoc.symm
      rw [e0]
      exact ⟨-1, nI 0, xO, xM, yO, fun post hp => br_t c1 (br_t (by decide) hp), fun post hp => br_t c1 (br_t (by decide) hp), Or.inl ⟨rfl, W, hs, hM⟩⟩
    | cons a s =>
      rw [hs] at hoc
      have l4 := fw_len W n (by omega)
      rw [hs, hoc] at l4
      have e0 : 0 < oc := by rw [← hoc]; exact Nat.succ_pos _
      have c2 : ¬ nI oc ≤ 0 := nI_nle e0 (by omega)
      exact ⟨nI n, nI oc, xO, xM, yO, fun post hp => br_t c1 (br_f c2 hp), fun post hp => br_t c1 (br_f c2 hp), Or.inr ⟨nI_pos (by omega), fx_m1 (by omega)⟩⟩
  | succ d ih =>
    intro i oc xO xM yO hi W hoc hT hM hO
    have c1 : ¬ nI n ≤ nI i := nI_ge (by omega) (by omega)
    have vi : vp_in (nI i) 40 := vp_in_nI (by omega) (by omega)
    have ci : (nI i).toNatClampNeg = i := nI_clamp (by omega)
    have l4 := fw_len W i (by omega)
    rw [hoc] at l4
    have eK : iK (nI i).toNatClampNeg = iK i := by rw [ci]
    have bad : ¬ nI i < 0 ∧ ¬ nI i = -1 := ⟨nI_pos (by omega), fx_m1 (by omega)⟩
    by_cases h1 : fw_Op iK i
    · obtain ⟨k1, k2, k3, k4, k5⟩ := fx_op4 h1
      by_cases ho : oc < 4
      · have w1 : nI oc < (4 : Int32) := nI_lt (b := 4) ho (by decide)
        have w2 : ¬ nI oc = (4 : Int32) := fun z => by
          have := (nI_eq (a := oc) (b := 4) (by omega) (by omega)).mp z
          omega
        have v4 : vp_in (nI oc) 4 := vp_in_nI ho (by omega)
        have v5 : vp_in (nI oc) 5 := vp_in_nI (by omega) (by omega)
        have co : (nI oc).toNatClampNeg = oc := nI_clamp (by omega)
        have W' : fw_Wf iK (i + 1) := fw_Wf_s W (fun _ => by rw [hoc]; exact ho) (fun z => absurd z k3) (fun z => absurd z k4)
        obtain ⟨M1, M2⟩ := fw_M_op W hM hO h1
        have hst := fw_st_op h1
        have hT' : fw_T iK (upd xO oc (nI i)) (upd yO oc (iK i)) (fw_st iK (i + 1)) := by
          rw [hst]
          refine ⟨by rw [hoc, pk_us], fun _ => by rw [hoc, pk_us], fun z => absurd rfl z, ?_⟩
          exact fw_T_fr _ hT (fun d hd => by rw [hoc] at hd; exact ⟨pk_un (by omega), pk_un (by omega)⟩)
        obtain ⟨r, oc', xO', xM', yO', HX, HY, hr⟩ := ih (i + 1) (oc + 1) (upd xO oc (nI i)) (upd xM i (-1)) (upd yO oc (iK i)) (by omega) W' (by rw [hst, List.length_cons, hoc]) hT' M1 M2
        refine ⟨r, oc', xO', xM', yO', fun post hp => br_f c1 ⟨vi, nm_r eK (fx_op1 h1 (br_f (by decide) ?_))⟩, fun post hp => br_f c1 ⟨vi, nm_r eK (br_f k1 (br_f k2 (br_f w2 (nm_r (nI_1 oc) ⟨v5, nm_r (by rw [co]) ?_⟩))))⟩, hr⟩
        · refine br_t w1 ⟨v4, nm_r (by rw [co]) (nm_r (nI_1 oc) ⟨vi, nm_r (by rw [ci]) ?_⟩)⟩
          exact br_f (by decide) (nm_r (nI_1 i) (HX post hp))
        · exact br_f k3 (br_f k4 (nm_r (nI_1 i) (HY post hp)))
      · have w1 : ¬ nI oc < (4 : Int32) := nI_nlt (b := 4) (by omega) (by omega)
        have w2 : nI oc = (4 : Int32) := by rw [show oc = 4 by omega]; rfl
        exact ⟨nI i, nI oc, xO, xM, yO, fun post hp => br_f c1 ⟨vi, nm_r eK (fx_op1 h1 (br_f (by decide) (br_f w1 (br_t rfl hp))))⟩, fun post hp => br_f c1 ⟨vi, nm_r eK (br_f k1 (br_f k2 (br_t w2 hp)))⟩, Or.inr bad⟩
    · obtain ⟨c, hc, ec⟩ := hK i (by omega)
      have HYn : ∀ (post : Int32 → SY → Prop) (J : Int32 → Int32 → (Nat → Int32) → (Nat → Int32) → (Nat → Int32) → (Nat → Int32) → (Nat → Int32) → (Nat → Int32) → (Nat → Int32) → (Nat → Int32) → (Nat → Int32) → (Nat → Int32) → (Nat → Int32) → (Nat → Int32) → (Nat → Int32) → (Nat → Int32) → Prop) (A : Prop), wY_loose_47 post J (nI oc) (nI i) (iK i) (nI n) ysz yfd yls ymd ysa ytk ydp yps ybi ysp yus ynx yra yrd iK iA iB FK FA FB inp lst out vs yO yN yS yT → (iK i < 4 → wY_loose_47 post J (nI oc) (nI i) (iK i) (nI n) ysz yfd yls ymd ysa ytk ydp yps ybi ysp yus ynx yra yrd iK iA iB FK FA FB inp lst out vs yO yN yS yT) ∧ (¬ iK i < 4 → ((6 < iK i → wY_loose_47 post J (nI oc) (nI i) (iK i) (nI n) ysz yfd yls ymd ysa ytk ydp yps ybi ysp yus ynx yra yrd iK iA iB FK FA FB inp lst out vs yO yN yS yT) ∧ (¬ 6 < iK i → A))) := by
        intro post J A h
        have q : iK i < 4 ∨ (¬ iK i < 4 ∧ 6 < iK i ∧ ¬ iK i ≤ 6) := by
          rw [ec]
          exact fx_no4 hc (by rw [← ec]; exact h1)
        rcases q with q | ⟨q1, q2, q3⟩
        · exact br_t q h
        · exact br_f q1 (br_t q2 h)
      by_cases h2 : iK i = 12
      · have n13 : ¬ iK i = 13 := by rw [h2]; decide
        cases hs : fw_st iK i with
        | nil =>
          rw [hs] at hoc
          have e0 : oc = 0 := hoc.symm
          rw [e0]
          rw [e0] at HYn
          exact ⟨nI i, nI 0, xO, xM, yO, fun post hp => br_f c1 ⟨vi, nm_r eK (fx_op0 h1 (br_t rfl (br_t h2 (br_t rfl (br_t rfl hp)))))⟩, fun post hp => br_f c1 ⟨vi, nm_r eK (HYn _ _ _ (br_t h2 (br_t rfl hp)))⟩, Or.inr bad⟩
        | cons a s =>
          obtain ⟨o, e⟩ := a
          obtain ⟨a1, a2, a3, a4⟩ := fw_hd W i (by omega) o e s hs
          rw [hs] at hT hoc
          obtain ⟨t1, t2, t3, t4⟩ := hT
          have eo : s.length + 1 = oc := hoc
          have z0 : ¬ nI oc = 0 := nI_ne0 (by omega) (by omega)
          have em : nI oc - 1 = nI s.length := by rw [← eo]; exact nI_pred _
          have v4 : vp_in (nI oc - 1) 4 := by rw [em]; exact vp_in_nI (by omega) (by omega)
          have v5 : vp_in (nI oc - 1) 5 := by rw [em]; exact vp_in_nI (by omega) (by omega)
          have cm : (nI oc - 1).toNatClampNeg = s.length := by rw [em]; exact nI_clamp (by omega)
          have x2 : xO (nI oc - 1).toNatClampNeg = nI o := by rw [cm]; exact t1
          have vo : vp_in (nI o) 40 := vp_in_nI (by omega) (by omega)
          have co : (nI o).toNatClampNeg = o := nI_clamp (by omega)
          have mo := hO o e (by rw [hs]; exact List.mem_cons.mpr (Or.inl rfl))
          by_cases h5 : iK o = 5
          · have x5 : iK (nI o).toNatClampNeg = 5 := by rw [co]; exact h5
            by_cases he : e = 0
            · have xm : xM (nI o).toNatClampNeg = -1 := by rw [co]; exact mo.1 he
              have y5 : yO (nI oc - 1).toNatClampNeg = 5 := by rw [cm, t2 he]; exact h5
              rw [he] at hs
              have W' : fw_Wf iK (i + 1) := fw_Wf_s W (fun z => absurd z h1) (fun _ => ⟨o, s, hs, h5⟩) (fun z => absurd z n13)
              obtain ⟨M1, M2⟩ := fw_M_el W hM hO h2 hs
              have hst := fw_st_el h2 hs
              have hT' : fw_T iK xO (upd yO s.length 12) (fw_st iK (i + 1)) := by
                rw [hst]
                exact ⟨t1, fun z => by omega, fun _ => pk_us, fw_T_fr s t4 (fun d hd => ⟨rfl, pk_un (by omega)⟩)⟩
              obtain ⟨r, oc', xO', xM', yO', HX, HY, hr⟩ := ih (i + 1) oc xO (upd xM o (nI i)) (upd yO s.length 12) (by omega) W' (by rw [hst]; exact hoc) hT' M1 M2
              refine ⟨r, oc', xO', xM', yO', fun post hp => br_f c1 ⟨vi, nm_r eK (fx_op0 h1 (br_t rfl (br_t h2 (br_f z0 ⟨v4, nm_r x2 ⟨vo, br_t x5 ⟨vo, br_t xm ⟨vo, nm_r (by rw [co]) ?_⟩⟩⟩⟩))))⟩, fun post hp => br_f c1 ⟨vi, nm_r eK (HYn _ _ _ (br_t h2 (br_f z0 ⟨v5, br_t y5 ⟨v5, nm_r (by rw [cm]) ?_⟩⟩)))⟩, hr⟩
              · exact br_f (by decide) (nm_r (nI_1 i) (HX post hp))
              · exact br_f n13 (nm_r (nI_1 i) (HY post hp))
            · have xm : ¬ xM (nI o).toNatClampNeg = -1 := by
                rw [co, mo.2 he]
                rcases a3 with a3 | a3
                · exact absurd a3 he
                · exact fx_m1 (by omega)
              have y5 : ¬ yO (nI oc - 1).toNatClampNeg = 5 := by rw [cm, t3 he]; decide
              exact ⟨nI i, nI oc, xO, xM, yO, fun post hp => br_f c1 ⟨vi, nm_r eK (fx_op0 h1 (br_t rfl (br_t h2 (br_f z0 ⟨v4, nm_r x2 ⟨vo, br_t x5 ⟨vo, br_f xm (br_t rfl hp)⟩⟩⟩))))⟩, fun post hp => br_f c1 ⟨vi, nm_r eK (HYn _ _ _ (br_t h2 (br_f z0 ⟨v5, br_f y5 hp⟩)))⟩, Or.inr bad⟩
          · have x5 : ¬ iK (nI o).toNatClampNeg = 5 := by rw [co]; exact h5
            have y5 : ¬ yO (nI oc - 1).toNatClampNeg = 5 := by
              rw [cm]
              by_cases he : e = 0
              · rw [t2 he]; exact h5
              · rw [t3 he]; decide
            exact ⟨nI i, nI oc, xO, xM, yO, fun post hp => br_f c1 ⟨vi, nm_r eK (fx_op0 h1 (br_t rfl (br_t h2 (br_f z0 ⟨v4, nm_r x2 ⟨vo, br_f x5 (br_t rfl hp)⟩⟩))))⟩, fun post hp => br_f c1 ⟨vi, nm_r eK (HYn _ _ _ (br_t h2 (br_f z0 ⟨v5, br_f y5 hp⟩)))⟩, Or.inr bad⟩
      · by_cases h3 : iK i = 13
        · cases hs : fw_st iK i with
          | nil =>
            rw [hs] at hoc
            have e0 : oc = 0 := hoc.symm
            rw [e0]
            rw [e0] at HYn
            exact ⟨nI i, nI 0, xO, xM, yO, fun post hp => br_f c1 ⟨vi, nm_r eK (fx_op0 h1 (br_t rfl (br_f h2 (br_t h3 (br_t rfl (br_t rfl hp))))))⟩, fun post hp => br_f c1 ⟨vi, nm_r eK (HYn _ _ _ (br_f h2 (br_t h3 (br_t rfl hp))))⟩, Or.inr bad⟩
          | cons a s =>
            obtain ⟨o, e⟩ := a
            obtain ⟨a1, a2, a3, a4⟩ := fw_hd W i (by omega) o e s hs
            rw [hs] at hT hoc
            obtain ⟨t1, t2, t3, t4⟩ := hT
            have eo : s.length + 1 = oc := hoc
            have z0 : ¬ nI oc = 0 := nI_ne0 (by omega) (by omega)
            have em : nI oc - 1 = nI s.length := by rw [← eo]; exact nI_pred _
            have em' : nI oc + (-1) = nI s.length := by rw [← eo]; exact pk_m1 _
            have v4 : vp_in (nI s.length) 4 := vp_in_nI (by omega) (by omega)
            have cm : (nI s.length).toNatClampNeg = s.length := nI_clamp (by omega)
            have x2 : xO (nI s.length).toNatClampNeg = nI o := by rw [cm]; exact t1
            have vo : vp_in (nI o) 40 := vp_in_nI (by omega) (by omega)
            have co : (nI o).toNatClampNeg = o := nI_clamp (by omega)
            have mo := hO o e (by rw [hs]; exact List.mem_cons.mpr (Or.inl rfl))
            have W' : fw_Wf iK (i + 1) := fw_Wf_s W (fun z => absurd z h1) (fun z => absurd z h2) (fun _ => ⟨o, e, s, hs⟩)
            have hst := fw_st_en h3 hs
            have hT' : fw_T iK xO yO (fw_st iK (i + 1)) := by rw [hst]; exact t4
            by_cases he : e = 0
            · have xm : xM (nI o).toNatClampNeg = -1 := by rw [co]; exact mo.1 he
              obtain ⟨M1, M2⟩ := fw_M_en (m := o) W hM hO h3 hs (fun _ => rfl) (fun z => absurd he z)
              obtain ⟨r, oc', xO', xM', yO', HX, HY, hr⟩ := ih (i + 1) s.length xO (upd (upd xM o (nI i)) i (nI o)) yO (by omega) W' (by rw [hst]) hT' M1 M2
              refine ⟨r, oc', xO', xM', yO', fun post hp => br_f c1 ⟨vi, nm_r eK (fx_op0 h1 (br_t rfl (br_f h2 (br_t h3 (br_f z0 (nm_r em ⟨v4, nm_r x2 ⟨vo, nm_r xm (br_t rfl ⟨vo, nm_r (by rw [co]) ⟨vi, nm_r (by rw [ci]) ?_⟩⟩)⟩⟩))))))⟩, fun post hp => br_f c1 ⟨vi, nm_r eK (HYn _ _ _ (br_f h2 (br_t h3 (br_f z0 (nm_r em' (nm_r (nI_1 i) (HY post hp)))))))⟩, hr⟩
              exact br_f (by decide) (nm_r (nI_1 i) (HX post hp))
            · have he' : e < i := by
                rcases a3 with a3 | a3
                · exact absurd a3 he
                · exact a3.2.1
              have xm : xM (nI o).toNatClampNeg = nI e := by rw [co]; exact mo.2 he
              have ve : vp_in (nI e) 40 := vp_in_nI (by omega) (by omega)
              have ce : (nI e).toNatClampNeg = e := nI_clamp (by omega)
              obtain ⟨M1, M2⟩ := fw_M_en (m := e) W hM hO h3 hs (fun z => absurd z he) (fun _ => rfl)
              obtain ⟨r, oc', xO', xM', yO', HX, HY, hr⟩ := ih (i + 1) s.length xO (upd (upd xM e (nI i)) i (nI o)) yO (by omega) W' (by rw [hst]) hT' M1 M2
              refine ⟨r, oc', xO', xM', yO', fun post hp => br_f c1 ⟨vi, nm_r eK (fx_op0 h1 (br_t rfl (br_f h2 (br_t h3 (br_f z0 (nm_r em ⟨v4, nm_r x2 ⟨vo, nm_r xm (br_f (fx_m1 (by omega)) ⟨ve, nm_r (by rw [ce]) ⟨vi, nm_r (by rw [ci]) ?_⟩⟩)⟩⟩))))))⟩, fun post hp => br_f c1 ⟨vi, nm_r eK (HYn _ _ _ (br_f h2 (br_t h3 (br_f z0 (nm_r em' (nm_r (nI_1 i) (HY post hp)))))))⟩, hr⟩
              exact br_f (by decide) (nm_r (nI_1 i) (HX post hp))
        · have hst := fw_st_no h1 h2 h3
          have W' : fw_Wf iK (i + 1) := fw_Wf_s W (fun z => absurd z h1) (fun z => absurd z h2) (fun z => absurd z h3)
          obtain ⟨M1, M2⟩ := fw_M_no hM hO h1 h2 h3
          obtain ⟨r, oc', xO', xM', yO', HX, HY, hr⟩ := ih (i + 1) oc xO xM yO (by omega) W' (by rw [hst]; exact hoc) (by rw [hst]; exact hT) M1 M2
          exact ⟨r, oc', xO', xM', yO', fun post hp => br_f c1 ⟨vi, nm_r eK (fx_op0 h1 (br_t rfl (br_f h2 (br_f h3 (br_f (by decide) (nm_r (nI_1 i) (HX post hp)))))))⟩, fun post hp => br_f c1 ⟨vi, nm_r eK (HYn _ _ _ (br_f h2 (br_f h3 (nm_r (nI_1 i) (HY post hp)))))⟩, hr⟩
end
end
section
/-! compile: what is set -/
section
variable {xic xoc xfc xhf xil xll xol xea xwr xcu xfo xsp xpo xbl xli xvu yic ysz yfd yls ymd ysa ytk ydp yps ybi ysp yus ynx yra yrd : Int32} {iK iA iB xM xO xS FK FA FB FM inp lst out vs xR xL yO yN yS yT : Nat → Int32}
theorem fx_ns1 {post : Int32 → Prop} {k : Int32} (h : (k = 4 ∨ k = 5 ∨ k = 6) ∨ k = 9 ∨ k = 11) (hp : post 1) : wpX_needsSet post (xic, xoc, xfc, xhf, xil, xll, xol, xea, xwr, xcu, xfo, xsp, xpo, xbl, xli, xvu, iK, iA, iB, xM, xO, xS, FK, FA, FB, FM, inp, lst, out, vs, xR, xL) k := by
  unfold wpX_needsSet
  dsimp only
  by_cases ho : k = 4 ∨ k = 5 ∨ k = 6
  · exact fx_op1 ho (br_f (by decide) hp)
  · refine fx_op0 ho (br_t rfl ?_)
    by_cases h9 : k = 9
    · exact br_t h9 hp
    · exact br_f h9 (br_t ((h.resolve_left ho).resolve_left h9) hp)
theorem fx_ns0 {post : Int32 → Prop} {k : Int32} (h : ¬ (k = 4 ∨ k = 5 ∨ k = 6)) (h9 : ¬ k = 9) (h11 : ¬ k = 11) (hp : post 0) : wpX_needsSet post (xic, xoc, xfc, xhf, xil, xll, xol, xea, xwr, xcu, xfo, xsp, xpo, xbl, xli, xvu, iK, iA, iB, xM, xO, xS, FK, FA, FB, FM, inp, lst, out, vs, xR, xL) k := by
  unfold wpX_needsSet
  dsimp only
  exact fx_op0 h (br_t rfl (br_f h9 (br_f h11 hp)))

theorem fu_X0 {post : Int32 → SX → Prop} {set own : Int32} {i : Nat} (hi : i < 40) (hk : iK i = nI 0) (h : post (set ||| own) (xic, xoc, xfc, xhf, xil, xll, xol, xea, xwr, xcu, xfo, xsp, xpo, xbl, xli, xvu, iK, iA, iB, xM, xO, upd xS i set, FK, FA, FB, FM, inp, lst, out, vs, xR, xL)) : wpX_setBehind post (xic, xoc, xfc, xhf, xil, xll, xol, xea, xwr, xcu, xfo, xsp, xpo, xbl, xli, xvu, iK, iA, iB, xM, xO, xS, FK, FA, FB, FM, inp, lst, out, vs, xR, xL) (nI i) set own := by
  have vi : vp_in (nI i) 40 := vp_in_nI hi (by omega)
  have ci : (nI i).toNatClampNeg = i := nI_clamp (by omega)
  have eK : iK (nI i).toNatClampNeg = nI 0 := by rw [ci]; exact hk
  exact ⟨vi, nm_r (by rw [ci]) ⟨vi, nm_r eK (br_f (by decide) (br_f (by decide) (br_t (by decide) (h))))⟩⟩
theorem fu_X1 {post : Int32 → SX → Prop} {set own : Int32} {i : Nat} (hi : i < 40) (hk : iK i = nI 1) (h : post (set ||| own) (xic, xoc, xfc, xhf, xil, xll, xol, xea, xwr, xcu, xfo, xsp, xpo, xbl, xli, xvu, iK, iA, iB, xM, xO, upd xS i set, FK, FA, FB, FM, inp, lst, out, vs, xR, xL)) : wpX_setBehind post (xic, xoc, xfc, xhf, xil, xll, xol, xea, xwr, xcu, xfo, xsp, xpo, xbl, xli, xvu, iK, iA, iB, xM, xO, xS, FK, FA, FB, FM, inp, lst, out, vs, xR, xL) (nI i) set own := by
  have vi : vp_in (nI i) 40 := vp_in_nI hi (by omega)
  have ci : (nI i).toNatClampNeg = i := nI_clamp (by omega)
  have eK : iK (nI i).toNatClampNeg = nI 1 := by rw [ci]; exact hk
  exact ⟨vi, nm_r (by rw [ci]) ⟨vi, nm_r eK (br_f (by decide) (br_f (by decide) (br_f (by decide) (br_t (by decide) (h)))))⟩⟩
theorem fu_X2 {post : Int32 → SX → Prop} {set own : Int32} {i : Nat} (hi : i < 40) (hk : iK i = nI 2) (h : post (set ||| own) (xic, xoc, xfc, xhf, xil, xll, xol, xea, xwr, xcu, xfo, xsp, xpo, xbl, xli, xvu, iK, iA, iB, xM, xO, upd xS i set, FK, FA, FB, FM, inp, lst, out, vs, xR, xL)) : wpX_setBehind post (xic, xoc, xfc, xhf, xil, xll, xol, xea, xwr, xcu, xfo, xsp, xpo, xbl, xli, xvu, iK, iA, iB, xM, xO, xS, FK, FA, FB, FM, inp, lst, out, vs, xR, xL) (nI i) set own := by
  have vi : vp_in (nI i) 40 := vp_in_nI hi (by omega)
  have ci : (nI i).toNatClampNeg = i := nI_clamp (by omega)
  have eK : iK (nI i).toNatClampNeg = nI 2 := by rw [ci]; exact hk
  exact ⟨vi, nm_r (by rw [ci]) ⟨vi, nm_r eK (br_f (by decide) (br_f (by decide) (br_f (by decide) (br_f (by decide) (br_t (by decide) (h))))))⟩⟩
theorem fu_X3 {post : Int32 → SX → Prop} {set own : Int32} {i : Nat} (hi : i < 40) (hk : iK i = nI 3) (h : post set (xic, xoc, xfc, xhf, xil, xll, xol, xea, xwr, xcu, xfo, xsp, xpo, xbl, xli, xvu, iK, iA, iB, xM, xO, upd xS i set, FK, FA, FB, FM, inp, lst, out, vs, xR, xL)) : wpX_setBehind post (xic, xoc, xfc, xhf, xil, xll, xol, xea, xwr, xcu, xfo, xsp, xpo, xbl, xli, xvu, iK, iA, iB, xM, xO, xS, FK, FA, FB, FM, inp, lst, out, vs, xR, xL) (nI i) set own := by
  have vi : vp_in (nI i) 40 := vp_in_nI hi (by omega)
  have ci : (nI i).toNatClampNeg = i := nI_clamp (by omega)
  have eK : iK (nI i).toNatClampNeg = nI 3 := by rw [ci]; exact hk
  exact ⟨vi, nm_r (by rw [ci]) ⟨vi, nm_r eK (br_f (by decide) (br_f (by decide) (br_f (by decide) (br_f (by decide) (br_f (by decide) (br_t (by decide) (h)))))))⟩⟩
theorem fu_X4 {post : Int32 → SX → Prop} {set own : Int32} {i : Nat} (hi : i < 40) (hk : iK i = nI 4) (h : post set (xic, xoc, xfc, xhf, xil, xll, xol, xea, xwr, xcu, xfo, xsp, xpo, xbl, xli, xvu, iK, iA, iB, xM, xO, upd xS i set, FK, FA, FB, FM, inp, lst, out, vs, xR, xL)) : wpX_setBehind post (xic, xoc, xfc, xhf, xil, xll, xol, xea, xwr, xcu, xfo, xsp, xpo, xbl, xli, xvu, iK, iA, iB, xM, xO, xS, FK, FA, FB, FM, inp, lst, out, vs, xR, xL) (nI i) set own := by
  have vi : vp_in (nI i) 40 := vp_in_nI hi (by omega)
  have ci : (nI i).toNatClampNeg = i := nI_clamp (by omega)
  have eK : iK (nI i).toNatClampNeg = nI 4 := by rw [ci]; exact hk
  exact ⟨vi, nm_r (by rw [ci]) ⟨vi, nm_r eK (br_f (by decide) (br_f (by decide) (br_f (by decide) (br_f (by decide) (br_f (by decide) (br_f (by decide) (br_t (by decide) (h))))))))⟩⟩
theorem fu_X5 {post : Int32 → SX → Prop} {set own : Int32} {i : Nat} (hi : i < 40) (hk : iK i = nI 5) (h : post set (xic, xoc, xfc, xhf, xil, xll, xol, xea, xwr, xcu, xfo, xsp, xpo, xbl, xli, xvu, iK, iA, iB, xM, xO, upd xS i set, FK, FA, FB, FM, inp, lst, out, vs, xR, xL)) : wpX_setBehind post (xic, xoc, xfc, xhf, xil, xll, xol, xea, xwr, xcu, xfo, xsp, xpo, xbl, xli, xvu, iK, iA, iB, xM, xO, xS, FK, FA, FB, FM, inp, lst, out, vs, xR, xL) (nI i) set own := by
  have vi : vp_in (nI i) 40 := vp_in_nI hi (by omega)
  have ci : (nI i).toNatClampNeg = i := nI_clamp (by omega)
  have eK : iK (nI i).toNatClampNeg = nI 5 := by rw [ci]; exact hk
  exact ⟨vi, nm_r (by rw [ci]) ⟨vi, nm_r eK (br_f (by decide) (br_f (by decide) (br_f (by decide) (br_f (by decide) (br_f (by decide) (br_f (by decide) (br_f (by decide) (br_t (by decide) (h)))))))))⟩⟩
theorem fu_X6 {post : Int32 → SX → Prop} {set own : Int32} {i : Nat} (hi : i < 40) (hk : iK i = nI 6) (h : post set (xic, xoc, xfc, xhf, xil, xll, xol, xea, xwr, xcu, xfo, xsp, xpo, xbl, xli, xvu, iK, iA, iB, xM, xO, upd xS i set, FK, FA, FB, FM, inp, lst, out, vs, xR, xL)) : wpX_setBehind post (xic, xoc, xfc, xhf, xil, xll, xol, xea, xwr, xcu, xfo, xsp, xpo, xbl, xli, xvu, iK, iA, iB, xM, xO, xS, FK, FA, FB, FM, inp, lst, out, vs, xR, xL) (nI i) set own := by
  have vi : vp_in (nI i) 40 := vp_in_nI hi (by omega)
  have ci : (nI i).toNatClampNeg = i := nI_clamp (by omega)
  have eK : iK (nI i).toNatClampNeg = nI 6 := by rw [ci]; exact hk
  exact ⟨vi, nm_r (by rw [ci]) ⟨vi, nm_r eK (br_f (by decide) (br_f (by decide) (br_f (by decide) (br_f (by decide) (br_f (by decide) (br_f (by decide) (br_f (by decide) (br_f (by decide) (br_t (by decide) (h))))))))))⟩⟩
theorem fu_X7 {post : Int32 → SX → Prop} {set own : Int32} {i : Nat} (hi : i < 40) (hk : iK i = nI 7) (h : post set (xic, xoc, xfc, xhf, xil, xll, xol, xea, xwr, xcu, xfo, xsp, xpo, xbl, xli, xvu, iK, iA, iB, xM, xO, upd xS i set, FK, FA, FB, FM, inp, lst, out, vs, xR, xL)) : wpX_setBehind post (xic, xoc, xfc, xhf, xil, xll, xol, xea, xwr, xcu, xfo, xsp, xpo, xbl, xli, xvu, iK, iA, iB, xM, xO, xS, FK, FA, FB, FM, inp, lst, out, vs, xR, xL) (nI i) set own := by
  have vi : vp_in (nI i) 40 := vp_in_nI hi (by omega)
  have ci : (nI i).toNatClampNeg = i := nI_clamp (by omega)
  have eK : iK (nI i).toNatClampNeg = nI 7 := by rw [ci]; exact hk
  exact ⟨vi, nm_r (by rw [ci]) ⟨vi, nm_r eK (br_f (by decide) (br_f (by decide) (br_f (by decide) (br_f (by decide) (br_f (by decide) (br_f (by decide) (br_f (by decide) (br_f (by decide) (br_f (by decide) (br_t (by decide) (h)))))))))))⟩⟩
theorem fu_X8 {post : Int32 → SX → Prop} {set own : Int32} {i : Nat} (hi : i < 40) (hk : iK i = nI 8) (h : post set (xic, xoc, xfc, xhf, xil, xll, xol, xea, xwr, xcu, xfo, xsp, xpo, xbl, xli, xvu, iK, iA, iB, xM, xO, upd xS i set, FK, FA, FB, FM, inp, lst, out, vs, xR, xL)) : wpX_setBehind post (xic, xoc, xfc, xhf, xil, xll, xol, xea, xwr, xcu, xfo, xsp, xpo, xbl, xli, xvu, iK, iA, iB, xM, xO, xS, FK, FA, FB, FM, inp, lst, out, vs, xR, xL) (nI i) set own := by
  have vi : vp_in (nI i) 40 := vp_in_nI hi (by omega)
  have ci : (nI i).toNatClampNeg = i := nI_clamp (by omega)
  have eK : iK (nI i).toNatClampNeg = nI 8 := by rw [ci]; exact hk
  exact ⟨vi, nm_r (by rw [ci]) ⟨vi, nm_r eK (br_f (by decide) (br_f (by decide) (br_f (by decide) (br_f (by decide) (br_f (by decide) (br_f (by decide) (br_f (by decide) (br_f (by decide) (br_f (by decide) (br_f (by decide) (br_t (by decide) (h))))))))))))⟩⟩
theorem fu_X9 {post : Int32 → SX → Prop} {set own : Int32} {i : Nat} (hi : i < 40) (hk : iK i = nI 9) (h : post set (xic, xoc, xfc, xhf, xil, xll, xol, xea, xwr, xcu, xfo, xsp, xpo, xbl, xli, xvu, iK, iA, iB, xM, xO, upd xS i set, FK, FA, FB, FM, inp, lst, out, vs, xR, xL)) : wpX_setBehind post (xic, xoc, xfc, xhf, xil, xll, xol, xea, xwr, xcu, xfo, xsp, xpo, xbl, xli, xvu, iK, iA, iB, xM, xO, xS, FK, FA, FB, FM, inp, lst, out, vs, xR, xL) (nI i) set own := by
  have vi : vp_in (nI i) 40 := vp_in_nI hi (by omega)
  have ci : (nI i).toNatClampNeg = i := nI_clamp (by omega)
  have eK : iK (nI i).toNatClampNeg = nI 9 := by rw [ci]; exact hk
  exact ⟨vi, nm_r (by rw [ci]) ⟨vi, nm_r eK (br_f (by decide) (br_f (by decide) (br_f (by decide) (br_f (by decide) (br_f (by decide) (br_f (by decide) (br_f (by decide) (br_f (by decide) (br_f (by decide) (br_f (by decide) (br_f (by decide) (br_t (by decide) (h)))))))))))))⟩⟩
theorem fu_X10 {post : Int32 → SX → Prop} {set own : Int32} {i : Nat} (hi : i < 40) (hk : iK i = nI 10) (h : post (set ||| own) (xic, xoc, xfc, xhf, xil, xll, xol, xea, xwr, xcu, xfo, xsp, xpo, xbl, xli, xvu, iK, iA, iB, xM, xO, upd xS i set, FK, FA, FB, FM, inp, lst, out, vs, xR, xL)) : wpX_setBehind post (xic, xoc, xfc, xhf, xil, xll, xol, xea, xwr, xcu, xfo, xsp, xpo, xbl, xli, xvu, iK, iA, iB, xM, xO, xS, FK, FA, FB, FM, inp, lst, out, vs, xR, xL) (nI i) set own := by
  have vi : vp_in (nI i) 40 := vp_in_nI hi (by omega)
  have ci : (nI i).toNatClampNeg = i := nI_clamp (by omega)
  have eK : iK (nI i).toNatClampNeg = nI 10 := by rw [ci]; exact hk
  exact ⟨vi, nm_r (by rw [ci]) ⟨vi, nm_r eK (br_f (by decide) (br_f (by decide) (br_f (by decide) (br_f (by decide) (br_f (by decide) (br_f (by decide) (br_f (by decide) (br_f (by decide) (br_f (by decide) (br_f (by decide) (br_f (by decide) (br_f (by decide) (br_t (by decide) (h))))))))))))))⟩⟩
theorem fu_X11 {post : Int32 → SX → Prop} {set own : Int32} {i : Nat} (hi : i < 40) (hk : iK i = nI 11) (h : post (set ||| own) (xic, xoc, xfc, xhf, xil, xll, xol, xea, xwr, xcu, xfo, xsp, xpo, xbl, xli, xvu, iK, iA, iB, xM, xO, upd xS i set, FK, FA, FB, FM, inp, lst, out, vs, xR, xL)) : wpX_setBehind post (xic, xoc, xfc, xhf, xil, xll, xol, xea, xwr, xcu, xfo, xsp, xpo, xbl, xli, xvu, iK, iA, iB, xM, xO, xS, FK, FA, FB, FM, inp, lst, out, vs, xR, xL) (nI i) set own := by
  have vi : vp_in (nI i) 40 := vp_in_nI hi (by omega)
  have ci : (nI i).toNatClampNeg = i := nI_clamp (by omega)
  have eK : iK (nI i).toNatClampNeg = nI 11 := by rw [ci]; exact hk
  exact ⟨vi, nm_r (by rw [ci]) ⟨vi, nm_r eK (br_f (by decide) (br_f (by decide) (br_f (by decide) (br_f (by decide) (br_f (by decide) (br_f (by decide) (br_f (by decide) (br_f (by decide) (br_f (by decide) (br_f (by decide) (br_f (by decide) (br_f (by decide) (br_f (by decide) (br_t (by decide) (h)))))))))))))))⟩⟩
theorem fu_X12 {post : Int32 → SX → Prop} {set own : Int32} {i t o : Nat} (hi : i < 40) (hk : iK i = nI 12) (ht : t < 40) (ho : o < 40) (hM : xM i = nI t) (hM2 : xM t = nI o) (hne : o ≠ i) (h : post (xS o) (xic, xoc, xfc, xhf, xil, xll, xol, xea, xwr, xcu, xfo, xsp, xpo, xbl, xli, xvu, iK, iA, iB, xM, xO, upd xS i set, FK, FA, FB, FM, inp, lst, out, vs, xR, xL)) : wpX_setBehind post (xic, xoc, xfc, xhf, xil, xll, xol, xea, xwr, xcu, xfo, xsp, xpo, xbl, xli, xvu, iK, iA, iB, xM, xO, xS, FK, FA, FB, FM, inp, lst, out, vs, xR, xL) (nI i) set own := by
  have vi : vp_in (nI i) 40 := vp_in_nI hi (by omega)
  have ci : (nI i).toNatClampNeg = i := nI_clamp (by omega)
  have eK : iK (nI i).toNatClampNeg = nI 12 := by rw [ci]; exact hk
  have m1 : xM (nI i).toNatClampNeg = nI t := by rw [ci]; exact hM
  have m2 : xM (nI t).toNatClampNeg = nI o := by rw [nI_clamp (by omega)]; exact hM2
  have co : (nI o).toNatClampNeg = o := nI_clamp (by omega)
  refine ⟨vi, nm_r (by rw [ci]) ⟨vi, nm_r eK (br_f (by decide) (br_f (by decide) (br_f (by decide) (br_f (by decide) (br_f (by decide) (br_f (by decide) (br_f (by decide) (br_f (by decide) (br_f (by decide) (br_f (by decide) (br_f (by decide) (br_f (by decide) (br_f (by decide) (br_f (by decide) (br_t (by decide) (⟨vi, ?_⟩))))))))))))))))⟩⟩
  rw [m1, m2, co, pk_un hne]
  exact ⟨vp_in_nI ht (by omega), vp_in_nI ho (by omega), h⟩
theorem fu_X13_b {post : Int32 → SX → Prop} {set own : Int32} {i o : Nat} (hi : i < 40) (hk : iK i = nI 13) (ho : o < 40) (hM : xM i = nI o) (h6 : iK o = 6) (h : post set (xic, xoc, xfc, xhf, xil, xll, xol, xea, xwr, xcu, xfo, xsp, xpo, xbl, xli, xvu, iK, iA, iB, xM, xO, upd xS i set, FK, FA, FB, FM, inp, lst, out, vs, xR, xL)) : wpX_setBehind post (xic, xoc, xfc, xhf, xil, xll, xol, xea, xwr, xcu, xfo, xsp, xpo, xbl, xli, xvu, iK, iA, iB, xM, xO, xS, FK, FA, FB, FM, inp, lst, out, vs, xR, xL) (nI i) set own := by
  have vi : vp_in (nI i) 40 := vp_in_nI hi (by omega)
  have ci : (nI i).toNatClampNeg = i := nI_clamp (by omega)
  have eK : iK (nI i).toNatClampNeg = nI 13 := by rw [ci]; exact hk
  have m1 : xM (nI i).toNatClampNeg = nI o := by rw [ci]; exact hM
  have co : (nI o).toNatClampNeg = o := nI_clamp (by omega)
  have vo : vp_in (nI o) 40 := vp_in_nI ho (by omega)
  have k6 : iK (nI o).toNatClampNeg = 6 := by rw [co]; exact h6
  refine ⟨vi, nm_r (by rw [ci]) ⟨vi, nm_r eK (br_f (by decide) (br_f (by decide) (br_f (by decide) (br_f (by decide) (br_f (by decide) (br_f (by decide) (br_f (by decide) (br_f (by decide) (br_f (by decide) (br_f (by decide) (br_f (by decide) (br_f (by decide) (br_f (by decide) (br_f (by decide) (br_f (by decide) (br_t (by decide) (?_)))))))))))))))))⟩⟩
  unfold wpX_setBehindEnd
  exact ⟨vi, nm_r m1 ⟨vo, br_t k6 h⟩⟩
theorem fu_X13_0 {post : Int32 → SX → Prop} {set own : Int32} {i o : Nat} (hi : i < 40) (hk : iK i = nI 13) (ho : o < 40) (hM : xM i = nI o) (h6 : ¬ iK o = 6) (hM2 : xM o = nI i) (hne : o ≠ i) (h : post (set &&& xS o) (xic, xoc, xfc, xhf, xil, xll, xol, xea, xwr, xcu, xfo, xsp, xpo, xbl, xli, xvu, iK, iA, iB, xM, xO, upd xS i set, FK, FA, FB, FM, inp, lst, out, vs, xR, xL)) : wpX_setBehind post (xic, xoc, xfc, xhf, xil, xll, xol, xea, xwr, xcu, xfo, xsp, xpo, xbl, xli, xvu, iK, iA, iB, xM, xO, xS, FK, FA, FB, FM, inp, lst, out, vs, xR, xL) (nI i) set own := by
  have vi : vp_in (nI i) 40 := vp_in_nI hi (by omega)
  have ci : (nI i).toNatClampNeg = i := nI_clamp (by omega)
  have eK : iK (nI i).toNatClampNeg = nI 13 := by rw [ci]; exact hk
  have m1 : xM (nI i).toNatClampNeg = nI o := by rw [ci]; exact hM
  have co : (nI o).toNatClampNeg = o := nI_clamp (by omega)
  have vo : vp_in (nI o) 40 := vp_in_nI ho (by omega)
  have k6 : ¬ iK (nI o).toNatClampNeg = 6 := by rw [co]; exact h6
  have m2 : xM (nI o).toNatClampNeg = nI i := by rw [co]; exact hM2
  refine ⟨vi, nm_r (by rw [ci]) ⟨vi, nm_r eK (br_f (by decide) (br_f (by decide) (br_f (by decide) (br_f (by decide) (br_f (by decide) (br_f (by decide) (br_f (by decide) (br_f (by decide) (br_f (by decide) (br_f (by decide) (br_f (by decide) (br_f (by decide) (br_f (by decide) (br_f (by decide) (br_f (by decide) (br_t (by decide) (?_)))))))))))))))))⟩⟩
  unfold wpX_setBehindEnd
  refine ⟨vi, nm_r m1 ⟨vo, br_f k6 ⟨vo, br_t m2 ⟨vo, ?_⟩⟩⟩⟩
  rw [co, pk_un hne]
  exact h
theorem fu_X13_e {post : Int32 → SX → Prop} {set own : Int32} {i o e : Nat} (hi : i < 40) (hk : iK i = nI 13) (ho : o < 40) (he : e < 40) (hM : xM i = nI o) (h6 : ¬ iK o = 6) (hM2 : xM o = nI e) (hne : e ≠ i) (h : post (set &&& xS e) (xic, xoc, xfc, xhf, xil, xll, xol, xea, xwr, xcu, xfo, xsp, xpo, xbl, xli, xvu, iK, iA, iB, xM, xO, upd xS i set, FK, FA, FB, FM, inp, lst, out, vs, xR, xL)) : wpX_setBehind post (xic, xoc, xfc, xhf, xil, xll, xol, xea, xwr, xcu, xfo, xsp, xpo, xbl, xli, xvu, iK, iA, iB, xM, xO, xS, FK, FA, FB, FM, inp, lst, out, vs, xR, xL) (nI i) set own := by
  have vi : vp_in (nI i) 40 := vp_in_nI hi (by omega)
  have ci : (nI i).toNatClampNeg = i := nI_clamp (by omega)
  have eK : iK (nI i).toNatClampNeg = nI 13 := by rw [ci]; exact hk
  have m1 : xM (nI i).toNatClampNeg = nI o := by rw [ci]; exact hM
  have co : (nI o).toNatClampNeg = o := nI_clamp (by omega)
  have vo : vp_in (nI o) 40 := vp_in_nI ho (by omega)
  have k6 : ¬ iK (nI o).toNatClampNeg = 6 := by rw [co]; exact h6
  have m2 : xM (nI o).toNatClampNeg = nI e := by rw [co]; exact hM2
  have m3 : ¬ xM (nI o).toNatClampNeg = nI i := by
    rw [m2]
    intro z
    exact hne ((nI_eq (by omega) (by omega)).mp z)
  refine ⟨vi, nm_r (by rw [ci]) ⟨vi, nm_r eK (br_f (by decide) (br_f (by decide) (br_f (by decide) (br_f (by decide) (br_f (by decide) (br_f (by decide) (br_f (by decide) (br_f (by decide) (br_f (by decide) (br_f (by decide) (br_f (by decide) (br_f (by decide) (br_f (by decide) (br_f (by decide) (br_f (by decide) (br_t (by decide) (?_)))))))))))))))))⟩⟩
  unfold wpX_setBehindEnd
  refine ⟨vi, nm_r m1 ⟨vo, br_f k6 ⟨vo, br_f m3 ⟨vo, ?_⟩⟩⟩⟩
  rw [m2]
  refine ⟨vp_in_nI he (by omega), ?_⟩
  rw [nI_clamp (by omega), pk_un hne]
  exact h
theorem fu_Y0 {post : Int32 → SY → Prop} {J : Int32 → Int32 → Int32 → (Nat → Int32) → (Nat → Int32) → (Nat → Int32) → (Nat → Int32) → (Nat → Int32) → (Nat → Int32) → (Nat → Int32) → (Nat → Int32) → (Nat → Int32) → (Nat → Int32) → (Nat → Int32) → (Nat → Int32) → (Nat → Int32) → (Nat → Int32) → Prop} {set : Int32} {oc i v : Nat} (h : J (set ||| ((1 : Int32) <<< (nI v &&& 31))) (nI oc) (nI (i + 1)) iK iA iB FK FA FB inp lst out vs yO yN yS yT) : ((nI 0 < 4 → wY_unset_46 post J set (nI oc) (nI i) (nI 0) (nI v) yic ysz yfd yls ymd ysa ytk ydp yps ybi ysp yus ynx yra yrd iK iA iB FK FA FB inp lst out vs yO yN yS yT) ∧ (¬ nI 0 < 4 → ((nI 0 ≤ 6 → wY_unset_60 post J set (nI oc) (nI i) (nI 0) (nI v) yic ysz yfd yls ymd ysa ytk ydp yps ybi ysp yus ynx yra yrd iK iA iB FK FA FB inp lst out vs yO yN yS yT) ∧ (¬ nI 0 ≤ 6 → wY_unset_46 post J set (nI oc) (nI i) (nI 0) (nI v) yic ysz yfd yls ymd ysa ytk ydp yps ybi ysp yus ynx yra yrd iK iA iB FK FA FB inp lst out vs yO yN yS yT)))) :=
  br_t (by decide) (br_f (by decide) (br_f (by decide) (br_t rfl (br_t (by decide) (nm_e (br_t (by decide) (br_f (by decide) (br_f (by decide) (nm_r (nI_1 i) h)))))))))
theorem fu_Y1 {post : Int32 → SY → Prop} {J : Int32 → Int32 → Int32 → (Nat → Int32) → (Nat → Int32) → (Nat → Int32) → (Nat → Int32) → (Nat → Int32) → (Nat → Int32) → (Nat → Int32) → (Nat → Int32) → (Nat → Int32) → (Nat → Int32) → (Nat → Int32) → (Nat → Int32) → (Nat → Int32) → (Nat → Int32) → Prop} {set : Int32} {oc i v : Nat} (h : J (set ||| ((1 : Int32) <<< (nI v &&& 31))) (nI oc) (nI (i + 1)) iK iA iB FK FA FB inp lst out vs yO yN yS yT) : ((nI 1 < 4 → wY_unset_46 post J set (nI oc) (nI i) (nI 1) (nI v) yic ysz yfd yls ymd ysa ytk ydp yps ybi ysp yus ynx yra yrd iK iA iB FK FA FB inp lst out vs yO yN yS yT) ∧ (¬ nI 1 < 4 → ((nI 1 ≤ 6 → wY_unset_60 post J set (nI oc) (nI i) (nI 1) (nI v) yic ysz yfd yls ymd ysa ytk ydp yps ybi ysp yus ynx yra yrd iK iA iB FK FA FB inp lst out vs yO yN yS yT) ∧ (¬ nI 1 ≤ 6 → wY_unset_46 post J set (nI oc) (nI i) (nI 1) (nI v) yic ysz yfd yls ymd ysa ytk ydp yps ybi ysp yus ynx yra yrd iK iA iB FK FA FB inp lst out vs yO yN yS yT)))) :=
  br_t (by decide) (br_f (by decide) (br_f (by decide) (br_t rfl (br_t (by decide) (nm_e (br_t (by decide) (br_f (by decide) (br_f (by decide) (nm_r (nI_1 i) h)))))))))
theorem fu_Y2 {post : Int32 → SY → Prop} {J : Int32 → Int32 → Int32 → (Nat → Int32) → (Nat → Int32) → (Nat → Int32) → (Nat → Int32) → (Nat → Int32) → (Nat → Int32) → (Nat → Int32) → (Nat → Int32) → (Nat → Int32) → (Nat → Int32) → (Nat → Int32) → (Nat → Int32) → (Nat → Int32) → (Nat → Int32) → Prop} {set : Int32} {oc i v : Nat} (h : J (set ||| ((1 : Int32) <<< (nI v &&& 31))) (nI oc) (nI (i + 1)) iK iA iB FK FA FB inp lst out vs yO yN yS yT) : ((nI 2 < 4 → wY_unset_46 post J set (nI oc) (nI i) (nI 2) (nI v) yic ysz yfd yls ymd ysa ytk ydp yps ybi ysp yus ynx yra yrd iK iA iB FK FA FB inp lst out vs yO yN yS yT) ∧ (¬ nI 2 < 4 → ((nI 2 ≤ 6 → wY_unset_60 post J set (nI oc) (nI i) (nI 2) (nI v) yic ysz yfd yls ymd ysa ytk ydp yps ybi ysp yus ynx yra yrd iK iA iB FK FA FB inp lst out vs yO yN yS yT) ∧ (¬ nI 2 ≤ 6 → wY_unset_46 post J set (nI oc) (nI i) (nI 2) (nI v) yic ysz yfd yls ymd ysa ytk ydp yps ybi ysp yus ynx yra yrd iK iA iB FK FA FB inp lst out vs yO yN yS yT)))) :=
  br_t (by decide) (br_f (by decide) (br_f (by decide) (br_t rfl (br_t (by decide) (nm_e (br_t (by decide) (br_f (by decide) (br_f (by decide) (nm_r (nI_1 i) h)))))))))
theorem fu_Y3 {post : Int32 → SY → Prop} {J : Int32 → Int32 → Int32 → (Nat → Int32) → (Nat → Int32) → (Nat → Int32) → (Nat → Int32) → (Nat → Int32) → (Nat → Int32) → (Nat → Int32) → (Nat → Int32) → (Nat → Int32) → (Nat → Int32) → (Nat → Int32) → (Nat → Int32) → (Nat → Int32) → (Nat → Int32) → Prop} {set : Int32} {oc i v : Nat} (h : J set (nI oc) (nI (i + 1)) iK iA iB FK FA FB inp lst out vs yO yN yS yT) : ((nI 3 < 4 → wY_unset_46 post J set (nI oc) (nI i) (nI 3) (nI v) yic ysz yfd yls ymd ysa ytk ydp yps ybi ysp yus ynx yra yrd iK iA iB FK FA FB inp lst out vs yO yN yS yT) ∧ (¬ nI 3 < 4 → ((nI 3 ≤ 6 → wY_unset_60 post J set (nI oc) (nI i) (nI 3) (nI v) yic ysz yfd yls ymd ysa ytk ydp yps ybi ysp yus ynx yra yrd iK iA iB FK FA FB inp lst out vs yO yN yS yT) ∧ (¬ nI 3 ≤ 6 → wY_unset_46 post J set (nI oc) (nI i) (nI 3) (nI v) yic ysz yfd yls ymd ysa ytk ydp yps ybi ysp yus ynx yra yrd iK iA iB FK FA FB inp lst out vs yO yN yS yT)))) :=
  br_t (by decide) (br_f (by decide) (br_f (by decide) (br_t rfl (br_f (by decide) (br_f (by decide) (br_f (by decide) (br_t (by decide) (br_f (by decide) (br_f (by decide) (nm_r (nI_1 i) h))))))))))
theorem fu_Y4 {post : Int32 → SY → Prop} {J : Int32 → Int32 → Int32 → (Nat → Int32) → (Nat → Int32) → (Nat → Int32) → (Nat → Int32) → (Nat → Int32) → (Nat → Int32) → (Nat → Int32) → (Nat → Int32) → (Nat → Int32) → (Nat → Int32) → (Nat → Int32) → (Nat → Int32) → (Nat → Int32) → (Nat → Int32) → Prop} {set : Int32} {oc i v : Nat} (ho : oc < 4) (hb : ¬ ((set >>> (nI v &&& 31)) &&& 1) = 0) (h : J set (nI (oc + 1)) (nI (i + 1)) iK iA iB FK FA FB inp lst out vs (upd yO oc (nI 4)) yN (upd yS oc set) yT) : ((nI 4 < 4 → wY_unset_46 post J set (nI oc) (nI i) (nI 4) (nI v) yic ysz yfd yls ymd ysa ytk ydp yps ybi ysp yus ynx yra yrd iK iA iB FK FA FB inp lst out vs yO yN yS yT) ∧ (¬ nI 4 < 4 → ((nI 4 ≤ 6 → wY_unset_60 post J set (nI oc) (nI i) (nI 4) (nI v) yic ysz yfd yls ymd ysa ytk ydp yps ybi ysp yus ynx yra yrd iK iA iB FK FA FB inp lst out vs yO yN yS yT) ∧ (¬ nI 4 ≤ 6 → wY_unset_46 post J set (nI oc) (nI i) (nI 4) (nI v) yic ysz yfd yls ymd ysa ytk ydp yps ybi ysp yus ynx yra yrd iK iA iB FK FA FB inp lst out vs yO yN yS yT)))) := by
  have v5 : vp_in (nI oc) 5 := vp_in_nI (by omega) (by omega)
  have co : (nI oc).toNatClampNeg = oc := nI_clamp (by omega)
  exact br_f (by decide) (br_t (by decide) (br_f (by decide) (br_f hb (br_f (by decide) (br_f (by decide) (br_f (by decide) (br_f (by decide) (br_f (by decide) (⟨v5, nm_r (by rw [co]) (nm_r (nI_1 oc) ⟨v5, nm_r (by rw [co]) (br_f (by decide) (br_f (by decide) (nm_r (nI_1 i) h)))⟩)⟩)))))))))
theorem fu_Y5 {post : Int32 → SY → Prop} {J : Int32 → Int32 → Int32 → (Nat → Int32) → (Nat → Int32) → (Nat → Int32) → (Nat → Int32) → (Nat → Int32) → (Nat → Int32) → (Nat → Int32) → (Nat → Int32) → (Nat → Int32) → (Nat → Int32) → (Nat → Int32) → (Nat → Int32) → (Nat → Int32) → (Nat → Int32) → Prop} {set : Int32} {oc i v : Nat} (ho : oc < 4) (hb : ¬ ((set >>> (nI v &&& 31)) &&& 1) = 0) (h : J set (nI (oc + 1)) (nI (i + 1)) iK iA iB FK FA FB inp lst out vs (upd yO oc (nI 5)) yN (upd yS oc set) yT) : ((nI 5 < 4 → wY_unset_46 post J set (nI oc) (nI i) (nI 5) (nI v) yic ysz yfd yls ymd ysa ytk ydp yps ybi ysp yus ynx yra yrd iK iA iB FK FA FB inp lst out vs yO yN yS yT) ∧ (¬ nI 5 < 4 → ((nI 5 ≤ 6 → wY_unset_60 post J set (nI oc) (nI i) (nI 5) (nI v) yic ysz yfd yls ymd ysa ytk ydp yps ybi ysp yus ynx yra yrd iK iA iB FK FA FB inp lst out vs yO yN yS yT) ∧ (¬ nI 5 ≤ 6 → wY_unset_46 post J set (nI oc) (nI i) (nI 5) (nI v) yic ysz yfd yls ymd ysa ytk ydp yps ybi ysp yus ynx yra yrd iK iA iB FK FA FB inp lst out vs yO yN yS yT)))) := by
  have v5 : vp_in (nI oc) 5 := vp_in_nI (by omega) (by omega)
  have co : (nI oc).toNatClampNeg = oc := nI_clamp (by omega)
  exact br_f (by decide) (br_t (by decide) (br_f (by decide) (br_f hb (br_f (by decide) (br_f (by decide) (br_f (by decide) (br_f (by decide) (br_f (by decide) (⟨v5, nm_r (by rw [co]) (nm_r (nI_1 oc) ⟨v5, nm_r (by rw [co]) (br_f (by decide) (br_f (by decide) (nm_r (nI_1 i) h)))⟩)⟩)))))))))
theorem fu_Y6 {post : Int32 → SY → Prop} {J : Int32 → Int32 → Int32 → (Nat → Int32) → (Nat → Int32) → (Nat → Int32) → (Nat → Int32) → (Nat → Int32) → (Nat → Int32) → (Nat → Int32) → (Nat → Int32) → (Nat → Int32) → (Nat → Int32) → (Nat → Int32) → (Nat → Int32) → (Nat → Int32) → (Nat → Int32) → Prop} {set : Int32} {oc i v : Nat} (ho : oc < 4) (hb : ¬ ((set >>> (nI v &&& 31)) &&& 1) = 0) (h : J set (nI (oc + 1)) (nI (i + 1)) iK iA iB FK FA FB inp lst out vs (upd yO oc (nI 6)) yN (upd yS oc set) yT) : ((nI 6 < 4 → wY_unset_46 post J set (nI oc) (nI i) (nI 6) (nI v) yic ysz yfd yls ymd ysa ytk ydp yps ybi ysp yus ynx yra yrd iK iA iB FK FA FB inp lst out vs yO yN yS yT) ∧ (¬ nI 6 < 4 → ((nI 6 ≤ 6 → wY_unset_60 post J set (nI oc) (nI i) (nI 6) (nI v) yic ysz yfd yls ymd ysa ytk ydp yps ybi ysp yus ynx yra yrd iK iA iB FK FA FB inp lst out vs yO yN yS yT) ∧ (¬ nI 6 ≤ 6 → wY_unset_46 post J set (nI oc) (nI i) (nI 6) (nI v) yic ysz yfd yls ymd ysa ytk ydp yps ybi ysp yus ynx yra yrd iK iA iB FK FA FB inp lst out vs yO yN yS yT)))) := by
  have v5 : vp_in (nI oc) 5 := vp_in_nI (by omega) (by omega)
  have co : (nI oc).toNatClampNeg = oc := nI_clamp (by omega)
  exact br_f (by decide) (br_t (by decide) (br_f (by decide) (br_f hb (br_f (by decide) (br_f (by decide) (br_f (by decide) (br_f (by decide) (br_f (by decide) (⟨v5, nm_r (by rw [co]) (nm_r (nI_1 oc) ⟨v5, nm_r (by rw [co]) (br_f (by decide) (br_f (by decide) (nm_r (nI_1 i) h)))⟩)⟩)))))))))
theorem fu_Y7 {post : Int32 → SY → Prop} {J : Int32 → Int32 → Int32 → (Nat → Int32) → (Nat → Int32) → (Nat → Int32) → (Nat → Int32) → (Nat → Int32) → (Nat → Int32) → (Nat → Int32) → (Nat → Int32) → (Nat → Int32) → (Nat → Int32) → (Nat → Int32) → (Nat → Int32) → (Nat → Int32) → (Nat → Int32) → Prop} {set : Int32} {oc i v : Nat} (h : J set (nI oc) (nI (i + 1)) iK iA iB FK FA FB inp lst out vs yO yN yS yT) : ((nI 7 < 4 → wY_unset_46 post J set (nI oc) (nI i) (nI 7) (nI v) yic ysz yfd yls ymd ysa ytk ydp yps ybi ysp yus ynx yra yrd iK iA iB FK FA FB inp lst out vs yO yN yS yT) ∧ (¬ nI 7 < 4 → ((nI 7 ≤ 6 → wY_unset_60 post J set (nI oc) (nI i) (nI 7) (nI v) yic ysz yfd yls ymd ysa ytk ydp yps ybi ysp yus ynx yra yrd iK iA iB FK FA FB inp lst out vs yO yN yS yT) ∧ (¬ nI 7 ≤ 6 → wY_unset_46 post J set (nI oc) (nI i) (nI 7) (nI v) yic ysz yfd yls ymd ysa ytk ydp yps ybi ysp yus ynx yra yrd iK iA iB FK FA FB inp lst out vs yO yN yS yT)))) :=
  br_f (by decide) (br_f (by decide) (br_f (by decide) (br_f (by decide) (br_t rfl (br_f (by decide) (br_f (by decide) (br_f (by decide) (br_f (by decide) (br_t (by decide) (br_f (by decide) (br_f (by decide) (nm_r (nI_1 i) h))))))))))))
theorem fu_Y8 {post : Int32 → SY → Prop} {J : Int32 → Int32 → Int32 → (Nat → Int32) → (Nat → Int32) → (Nat → Int32) → (Nat → Int32) → (Nat → Int32) → (Nat → Int32) → (Nat → Int32) → (Nat → Int32) → (Nat → Int32) → (Nat → Int32) → (Nat → Int32) → (Nat → Int32) → (Nat → Int32) → (Nat → Int32) → Prop} {set : Int32} {oc i v : Nat} (h : J set (nI oc) (nI (i + 1)) iK iA iB FK FA FB inp lst out vs yO yN yS yT) : ((nI 8 < 4 → wY_unset_46 post J set (nI oc) (nI i) (nI 8) (nI v) yic ysz yfd yls ymd ysa ytk ydp yps ybi ysp yus ynx yra yrd iK iA iB FK FA FB inp lst out vs yO yN yS yT) ∧ (¬ nI 8 < 4 → ((nI 8 ≤ 6 → wY_unset_60 post J set (nI oc) (nI i) (nI 8) (nI v) yic ysz yfd yls ymd ysa ytk ydp yps ybi ysp yus ynx yra yrd iK iA iB FK FA FB inp lst out vs yO yN yS yT) ∧ (¬ nI 8 ≤ 6 → wY_unset_46 post J set (nI oc) (nI i) (nI 8) (nI v) yic ysz yfd yls ymd ysa ytk ydp yps ybi ysp yus ynx yra yrd iK iA iB FK FA FB inp lst out vs yO yN yS yT)))) :=
  br_f (by decide) (br_f (by decide) (br_f (by decide) (br_f (by decide) (br_t rfl (br_f (by decide) (br_f (by decide) (br_f (by decide) (br_f (by decide) (br_t (by decide) (br_f (by decide) (br_f (by decide) (nm_r (nI_1 i) h))))))))))))
theorem fu_Y9 {post : Int32 → SY → Prop} {J : Int32 → Int32 → Int32 → (Nat → Int32) → (Nat → Int32) → (Nat → Int32) → (Nat → Int32) → (Nat → Int32) → (Nat → Int32) → (Nat → Int32) → (Nat → Int32) → (Nat → Int32) → (Nat → Int32) → (Nat → Int32) → (Nat → Int32) → (Nat → Int32) → (Nat → Int32) → Prop} {set : Int32} {oc i v : Nat} (hb : ¬ ((set >>> (nI v &&& 31)) &&& 1) = 0) (h : J set (nI oc) (nI (i + 1)) iK iA iB FK FA FB inp lst out vs yO yN yS yT) : ((nI 9 < 4 → wY_unset_46 post J set (nI oc) (nI i) (nI 9) (nI v) yic ysz yfd yls ymd ysa ytk ydp yps ybi ysp yus ynx yra yrd iK iA iB FK FA FB inp lst out vs yO yN yS yT) ∧ (¬ nI 9 < 4 → ((nI 9 ≤ 6 → wY_unset_60 post J set (nI oc) (nI i) (nI 9) (nI v) yic ysz yfd yls ymd ysa ytk ydp yps ybi ysp yus ynx yra yrd iK iA iB FK FA FB inp lst out vs yO yN yS yT) ∧ (¬ nI 9 ≤ 6 → wY_unset_46 post J set (nI oc) (nI i) (nI 9) (nI v) yic ysz yfd yls ymd ysa ytk ydp yps ybi ysp yus ynx yra yrd iK iA iB FK FA FB inp lst out vs yO yN yS yT)))) :=
  br_f (by decide) (br_f (by decide) (br_t (by decide) (br_f (by decide) (br_f hb (br_f (by decide) (br_f (by decide) (br_f (by decide) (br_f (by decide) (br_t (by decide) (br_f (by decide) (br_f (by decide) (nm_r (nI_1 i) h))))))))))))
theorem fu_Y10 {post : Int32 → SY → Prop} {J : Int32 → Int32 → Int32 → (Nat → Int32) → (Nat → Int32) → (Nat → Int32) → (Nat → Int32) → (Nat → Int32) → (Nat → Int32) → (Nat → Int32) → (Nat → Int32) → (Nat → Int32) → (Nat → Int32) → (Nat → Int32) → (Nat → Int32) → (Nat → Int32) → (Nat → Int32) → Prop} {set : Int32} {oc i v : Nat} (h : J (set ||| ((1 : Int32) <<< (nI v &&& 31))) (nI oc) (nI (i + 1)) iK iA iB FK FA FB inp lst out vs yO yN yS yT) : ((nI 10 < 4 → wY_unset_46 post J set (nI oc) (nI i) (nI 10) (nI v) yic ysz yfd yls ymd ysa ytk ydp yps ybi ysp yus ynx yra yrd iK iA iB FK FA FB inp lst out vs yO yN yS yT) ∧ (¬ nI 10 < 4 → ((nI 10 ≤ 6 → wY_unset_60 post J set (nI oc) (nI i) (nI 10) (nI v) yic ysz yfd yls ymd ysa ytk ydp yps ybi ysp yus ynx yra yrd iK iA iB FK FA FB inp lst out vs yO yN yS yT) ∧ (¬ nI 10 ≤ 6 → wY_unset_46 post J set (nI oc) (nI i) (nI 10) (nI v) yic ysz yfd yls ymd ysa ytk ydp yps ybi ysp yus ynx yra yrd iK iA iB FK FA FB inp lst out vs yO yN yS yT)))) :=
  br_f (by decide) (br_f (by decide) (br_f (by decide) (br_f (by decide) (br_t rfl (br_f (by decide) (br_t (by decide) (nm_e (br_f (by decide) (br_t (by decide) (br_f (by decide) (br_f (by decide) (nm_r (nI_1 i) h))))))))))))
theorem fu_Y11 {post : Int32 → SY → Prop} {J : Int32 → Int32 → Int32 → (Nat → Int32) → (Nat → Int32) → (Nat → Int32) → (Nat → Int32) → (Nat → Int32) → (Nat → Int32) → (Nat → Int32) → (Nat → Int32) → (Nat → Int32) → (Nat → Int32) → (Nat → Int32) → (Nat → Int32) → (Nat → Int32) → (Nat → Int32) → Prop} {set : Int32} {oc i v : Nat} (hb : ¬ ((set >>> (nI v &&& 31)) &&& 1) = 0) (h : J (set ||| ((1 : Int32) <<< (nI v &&& 31))) (nI oc) (nI (i + 1)) iK iA iB FK FA FB inp lst out vs yO yN yS yT) : ((nI 11 < 4 → wY_unset_46 post J set (nI oc) (nI i) (nI 11) (nI v) yic ysz yfd yls ymd ysa ytk ydp yps ybi ysp yus ynx yra yrd iK iA iB FK FA FB inp lst out vs yO yN yS yT) ∧ (¬ nI 11 < 4 → ((nI 11 ≤ 6 → wY_unset_60 post J set (nI oc) (nI i) (nI 11) (nI v) yic ysz yfd yls ymd ysa ytk ydp yps ybi ysp yus ynx yra yrd iK iA iB FK FA FB inp lst out vs yO yN yS yT) ∧ (¬ nI 11 ≤ 6 → wY_unset_46 post J set (nI oc) (nI i) (nI 11) (nI v) yic ysz yfd yls ymd ysa ytk ydp yps ybi ysp yus ynx yra yrd iK iA iB FK FA FB inp lst out vs yO yN yS yT)))) :=
  br_f (by decide) (br_f (by decide) (br_f (by decide) (br_t (by decide) (br_f (by decide) (br_f hb (br_f (by decide) (br_f (by decide) (br_t (by decide) (nm_e (br_f (by decide) (br_t (by decide) (br_f (by decide) (br_f (by decide) (nm_r (nI_1 i) h))))))))))))))
theorem fu_Y12 {post : Int32 → SY → Prop} {J : Int32 → Int32 → Int32 → (Nat → Int32) → (Nat → Int32) → (Nat → Int32) → (Nat → Int32) → (Nat → Int32) → (Nat → Int32) → (Nat → Int32) → (Nat → Int32) → (Nat → Int32) → (Nat → Int32) → (Nat → Int32) → (Nat → Int32) → (Nat → Int32) → (Nat → Int32) → Prop} {set : Int32} {oc i v l : Nat} (hl : oc = l + 1) (ho : oc ≤ 4) (h : J (yS l) (nI oc) (nI (i + 1)) iK iA iB FK FA FB inp lst out vs (upd yO l 12) yN yS (upd yT l set)) : ((nI 12 < 4 → wY_unset_46 post J set (nI oc) (nI i) (nI 12) (nI v) yic ysz yfd yls ymd ysa ytk ydp yps ybi ysp yus ynx yra yrd iK iA iB FK FA FB inp lst out vs yO yN yS yT) ∧ (¬ nI 12 < 4 → ((nI 12 ≤ 6 → wY_unset_60 post J set (nI oc) (nI i) (nI 12) (nI v) yic ysz yfd yls ymd ysa ytk ydp yps ybi ysp yus ynx yra yrd iK iA iB FK FA FB inp lst out vs yO yN yS yT) ∧ (¬ nI 12 ≤ 6 → wY_unset_46 post J set (nI oc) (nI i) (nI 12) (nI v) yic ysz yfd yls ymd ysa ytk ydp yps ybi ysp yus ynx yra yrd iK iA iB FK FA FB inp lst out vs yO yN yS yT)))) := by
  have em : nI oc - 1 = nI l := by rw [hl]; exact nI_pred _
  have v5 : vp_in (nI oc - 1) 5 := by rw [em]; exact vp_in_nI (by omega) (by omega)
  have cm : (nI oc - 1).toNatClampNeg = l := by rw [em]; exact nI_clamp (by omega)
  exact br_f (by decide) (br_f (by decide) (br_f (by decide) (br_f (by decide) (br_t rfl (br_f (by decide) (br_f (by decide) (br_f (by decide) (br_f (by decide) (br_t (by decide) (br_t (by decide) ⟨v5, nm_r (by rw [cm]) ⟨v5, nm_r (by rw [cm]) ⟨v5, nm_r (by rw [cm]) (br_f (by decide) (nm_r (nI_1 i) h))⟩⟩⟩))))))))))
theorem fu_Y13_e {post : Int32 → SY → Prop} {J : Int32 → Int32 → Int32 → (Nat → Int32) → (Nat → Int32) → (Nat → Int32) → (Nat → Int32) → (Nat → Int32) → (Nat → Int32) → (Nat → Int32) → (Nat → Int32) → (Nat → Int32) → (Nat → Int32) → (Nat → Int32) → (Nat → Int32) → (Nat → Int32) → (Nat → Int32) → Prop} {set : Int32} {oc i v l : Nat} (hl : oc = l + 1) (ho : oc ≤ 4) (hy : yO l = 12) (h : J (set &&& yT l) (nI l) (nI (i + 1)) iK iA iB FK FA FB inp lst out vs yO yN yS yT) : ((nI 13 < 4 → wY_unset_46 post J set (nI oc) (nI i) (nI 13) (nI v) yic ysz yfd yls ymd ysa ytk ydp yps ybi ysp yus ynx yra yrd iK iA iB FK FA FB inp lst out vs yO yN yS yT) ∧ (¬ nI 13 < 4 → ((nI 13 ≤ 6 → wY_unset_60 post J set (nI oc) (nI i) (nI 13) (nI v) yic ysz yfd yls ymd ysa ytk ydp yps ybi ysp yus ynx yra yrd iK iA iB FK FA FB inp lst out vs yO yN yS yT) ∧ (¬ nI 13 ≤ 6 → wY_unset_46 post J set (nI oc) (nI i) (nI 13) (nI v) yic ysz yfd yls ymd ysa ytk ydp yps ybi ysp yus ynx yra yrd iK iA iB FK FA FB inp lst out vs yO yN yS yT)))) := by
  have em : nI oc + (-1) = nI l := by rw [hl]; exact pk_m1 _
  have v5 : vp_in (nI l) 5 := vp_in_nI (by omega) (by omega)
  have cm : (nI l).toNatClampNeg = l := nI_clamp (by omega)
  exact br_f (by decide) (br_f (by decide) (br_f (by decide) (br_f (by decide) (br_t rfl (br_f (by decide) (br_f (by decide) (br_f (by decide) (br_f (by decide) (br_t (by decide) (br_f (by decide) (br_t (by decide) (nm_r em ⟨v5, br_t (by rw [cm]; exact hy) ⟨v5, nm_r (by rw [cm]) (nm_r (nI_1 i) h)⟩⟩))))))))))))
theorem fu_Y13_b {post : Int32 → SY → Prop} {J : Int32 → Int32 → Int32 → (Nat → Int32) → (Nat → Int32) → (Nat → Int32) → (Nat → Int32) → (Nat → Int32) → (Nat → Int32) → (Nat → Int32) → (Nat → Int32) → (Nat → Int32) → (Nat → Int32) → (Nat → Int32) → (Nat → Int32) → (Nat → Int32) → (Nat → Int32) → Prop} {set : Int32} {oc i v l : Nat} (hl : oc = l + 1) (ho : oc ≤ 4) (hy : yO l = 6) (h : J (set) (nI l) (nI (i + 1)) iK iA iB FK FA FB inp lst out vs yO yN yS yT) : ((nI 13 < 4 → wY_unset_46 post J set (nI oc) (nI i) (nI 13) (nI v) yic ysz yfd yls ymd ysa ytk ydp yps ybi ysp yus ynx yra yrd iK iA iB FK FA FB inp lst out vs yO yN yS yT) ∧ (¬ nI 13 < 4 → ((nI 13 ≤ 6 → wY_unset_60 post J set (nI oc) (nI i) (nI 13) (nI v) yic ysz yfd yls ymd ysa ytk ydp yps ybi ysp yus ynx yra yrd iK iA iB FK FA FB inp lst out vs yO yN yS yT) ∧ (¬ nI 13 ≤ 6 → wY_unset_46 post J set (nI oc) (nI i) (nI 13) (nI v) yic ysz yfd yls ymd ysa ytk ydp yps ybi ysp yus ynx yra yrd iK iA iB FK FA FB inp lst out vs yO yN yS yT)))) := by
  have em : nI oc + (-1) = nI l := by rw [hl]; exact pk_m1 _
  have v5 : vp_in (nI l) 5 := vp_in_nI (by omega) (by omega)
  have cm : (nI l).toNatClampNeg = l := nI_clamp (by omega)
  exact br_f (by decide) (br_f (by decide) (br_f (by decide) (br_f (by decide) (br_t rfl (br_f (by decide) (br_f (by decide) (br_f (by decide) (br_f (by decide) (br_t (by decide) (br_f (by decide) (br_t (by decide) (nm_r em ⟨v5, br_f (by rw [cm, hy]; decide) ⟨v5, br_t (by rw [cm]; exact hy) (nm_r (nI_1 i) h)⟩⟩))))))))))))
theorem fu_Y13_0 {post : Int32 → SY → Prop} {J : Int32 → Int32 → Int32 → (Nat → Int32) → (Nat → Int32) → (Nat → Int32) → (Nat → Int32) → (Nat → Int32) → (Nat → Int32) → (Nat → Int32) → (Nat → Int32) → (Nat → Int32) → (Nat → Int32) → (Nat → Int32) → (Nat → Int32) → (Nat → Int32) → (Nat → Int32) → Prop} {set : Int32} {oc i v l : Nat} (hl : oc = l + 1) (ho : oc ≤ 4) (hy : ¬ yO l = 12) (hy2 : ¬ yO l = 6) (h : J (yS l) (nI l) (nI (i + 1)) iK iA iB FK FA FB inp lst out vs yO yN yS yT) : ((nI 13 < 4 → wY_unset_46 post J set (nI oc) (nI i) (nI 13) (nI v) yic ysz yfd yls ymd ysa ytk ydp yps ybi ysp yus ynx yra yrd iK iA iB FK FA FB inp lst out vs yO yN yS yT) ∧ (¬ nI 13 < 4 → ((nI 13 ≤ 6 → wY_unset_60 post J set (nI oc) (nI i) (nI 13) (nI v) yic ysz yfd yls ymd ysa ytk ydp yps ybi ysp yus ynx yra yrd iK iA iB FK FA FB inp lst out vs yO yN yS yT) ∧ (¬ nI 13 ≤ 6 → wY_unset_46 post J set (nI oc) (nI i) (nI 13) (nI v) yic ysz yfd yls ymd ysa ytk ydp yps ybi ysp yus ynx yra yrd iK iA iB FK FA FB inp lst out vs yO yN yS yT)))) := by
  have em : nI oc + (-1) = nI l := by rw [hl]; exact pk_m1 _
  have v5 : vp_in (nI l) 5 := vp_in_nI (by omega) (by omega)
  have cm : (nI l).toNatClampNeg = l := nI_clamp (by omega)
  exact br_f (by decide) (br_f (by decide) (br_f (by decide) (br_f (by decide) (br_t rfl (br_f (by decide) (br_f (by decide) (br_f (by decide) (br_f (by decide) (br_t (by decide) (br_f (by decide) (br_t (by decide) (nm_r em ⟨v5, br_f (by rw [cm]; exact hy) ⟨v5, br_f (by rw [cm]; exact hy2) ⟨v5, nm_r (by rw [cm]) (nm_r (nI_1 i) h)⟩⟩⟩))))))))))))
theorem fu_YF4 {post : Int32 → SY → Prop} {J : Int32 → Int32 → Int32 → (Nat → Int32) → (Nat → Int32) → (Nat → Int32) → (Nat → Int32) → (Nat → Int32) → (Nat → Int32) → (Nat → Int32) → (Nat → Int32) → (Nat → Int32) → (Nat → Int32) → (Nat → Int32) → (Nat → Int32) → (Nat → Int32) → (Nat → Int32) → Prop} {set : Int32} {oc i v : Nat} (hb : ((set >>> (nI v &&& 31)) &&& 1) = 0) (h : post (nI i) (yic, ysz, yfd, yls, ymd, ysa, ytk, ydp, yps, ybi, ysp, yus, ynx, yra, yrd, iK, iA, iB, FK, FA, FB, inp, lst, out, vs, yO, yN, yS, yT)) : ((nI 4 < 4 → wY_unset_46 post J set (nI oc) (nI i) (nI 4) (nI v) yic ysz yfd yls ymd ysa ytk ydp yps ybi ysp yus ynx yra yrd iK iA iB FK FA FB inp lst out vs yO yN yS yT) ∧ (¬ nI 4 < 4 → ((nI 4 ≤ 6 → wY_unset_60 post J set (nI oc) (nI i) (nI 4) (nI v) yic ysz yfd yls ymd ysa ytk ydp yps ybi ysp yus ynx yra yrd iK iA iB FK FA FB inp lst out vs yO yN yS yT) ∧ (¬ nI 4 ≤ 6 → wY_unset_46 post J set (nI oc) (nI i) (nI 4) (nI v) yic ysz yfd yls ymd ysa ytk ydp yps ybi ysp yus ynx yra yrd iK iA iB FK FA FB inp lst out vs yO yN yS yT)))) :=
  br_f (by decide) (br_t (by decide) (br_f (by decide) (br_t hb h)))
theorem fu_YF5 {post : Int32 → SY → Prop} {J : Int32 → Int32 → Int32 → (Nat → Int32) → (Nat → Int32) → (Nat → Int32) → (Nat → Int32) → (Nat → Int32) → (Nat → Int32) → (Nat → Int32) → (Nat → Int32) → (Nat → Int32) → (Nat → Int32) → (Nat → Int32) → (Nat → Int32) → (Nat → Int32) → (Nat → Int32) → Prop} {set : Int32} {oc i v : Nat} (hb : ((set >>> (nI v &&& 31)) &&& 1) = 0) (h : post (nI i) (yic, ysz, yfd, yls, ymd, ysa, ytk, ydp, yps, ybi, ysp, yus, ynx, yra, yrd, iK, iA, iB, FK, FA, FB, inp, lst, out, vs, yO, yN, yS, yT)) : ((nI 5 < 4 → wY_unset_46 post J set (nI oc) (nI i) (nI 5) (nI v) yic ysz yfd yls ymd ysa ytk ydp yps ybi ysp yus ynx yra yrd iK iA iB FK FA FB inp lst out vs yO yN yS yT) ∧ (¬ nI 5 < 4 → ((nI 5 ≤ 6 → wY_unset_60 post J set (nI oc) (nI i) (nI 5) (nI v) yic ysz yfd yls ymd ysa ytk ydp yps ybi ysp yus ynx yra yrd iK iA iB FK FA FB inp lst out vs yO yN yS yT) ∧ (¬ nI 5 ≤ 6 → wY_unset_46 post J set (nI oc) (nI i) (nI 5) (nI v) yic ysz yfd yls ymd ysa ytk ydp yps ybi ysp yus ynx yra yrd iK iA iB FK FA FB inp lst out vs yO yN yS yT)))) :=
  br_f (by decide) (br_t (by decide) (br_f (by decide) (br_t hb h)))
theorem fu_YF6 {post : Int32 → SY → Prop} {J : Int32 → Int32 → Int32 → (Nat → Int32) → (Nat → Int32) → (Nat → Int32) → (Nat → Int32) → (Nat → Int32) → (Nat → Int32) → (Nat → Int32) → (Nat → Int32) → (Nat → Int32) → (Nat → Int32) → (Nat → Int32) → (Nat → Int32) → (Nat → Int32) → (Nat → Int32) → Prop} {set : Int32} {oc i v : Nat} (hb : ((set >>> (nI v &&& 31)) &&& 1) = 0) (h : post (nI i) (yic, ysz, yfd, yls, ymd, ysa, ytk, ydp, yps, ybi, ysp, yus, ynx, yra, yrd, iK, iA, iB, FK, FA, FB, inp, lst, out, vs, yO, yN, yS, yT)) : ((nI 6 < 4 → wY_unset_46 post J set (nI oc) (nI i) (nI 6) (nI v) yic ysz yfd yls ymd ysa ytk ydp yps ybi ysp yus ynx yra yrd iK iA iB FK FA FB inp lst out vs yO yN yS yT) ∧ (¬ nI 6 < 4 → ((nI 6 ≤ 6 → wY_unset_60 post J set (nI oc) (nI i) (nI 6) (nI v) yic ysz yfd yls ymd ysa ytk ydp yps ybi ysp yus ynx yra yrd iK iA iB FK FA FB inp lst out vs yO yN yS yT) ∧ (¬ nI 6 ≤ 6 → wY_unset_46 post J set (nI oc) (nI i) (nI 6) (nI v) yic ysz yfd yls ymd ysa ytk ydp yps ybi ysp yus ynx yra yrd iK iA iB FK FA FB inp lst out vs yO yN yS yT)))) :=
  br_f (by decide) (br_t (by decide) (br_f (by decide) (br_t hb h)))
theorem fu_YF9 {post : Int32 → SY → Prop} {J : Int32 → Int32 → Int32 → (Nat → Int32) → (Nat → Int32) → (Nat → Int32) → (Nat → Int32) → (Nat → Int32) → (Nat → Int32) → (Nat → Int32) → (Nat → Int32) → (Nat → Int32) → (Nat → Int32) → (Nat → Int32) → (Nat → Int32) → (Nat → Int32) → (Nat → Int32) → Prop} {set : Int32} {oc i v : Nat} (hb : ((set >>> (nI v &&& 31)) &&& 1) = 0) (h : post (nI i) (yic, ysz, yfd, yls, ymd, ysa, ytk, ydp, yps, ybi, ysp, yus, ynx, yra, yrd, iK, iA, iB, FK, FA, FB, inp, lst, out, vs, yO, yN, yS, yT)) : ((nI 9 < 4 → wY_unset_46 post J set (nI oc) (nI i) (nI 9) (nI v) yic ysz yfd yls ymd ysa ytk ydp yps ybi ysp yus ynx yra yrd iK iA iB FK FA FB inp lst out vs yO yN yS yT) ∧ (¬ nI 9 < 4 → ((nI 9 ≤ 6 → wY_unset_60 post J set (nI oc) (nI i) (nI 9) (nI v) yic ysz yfd yls ymd ysa ytk ydp yps ybi ysp yus ynx yra yrd iK iA iB FK FA FB inp lst out vs yO yN yS yT) ∧ (¬ nI 9 ≤ 6 → wY_unset_46 post J set (nI oc) (nI i) (nI 9) (nI v) yic ysz yfd yls ymd ysa ytk ydp yps ybi ysp yus ynx yra yrd iK iA iB FK FA FB inp lst out vs yO yN yS yT)))) :=
  br_f (by decide) (br_f (by decide) (br_t (by decide) (br_f (by decide) (br_t hb h))))
theorem fu_YF11 {post : Int32 → SY → Prop} {J : Int32 → Int32 → Int32 → (Nat → Int32) → (Nat → Int32) → (Nat → Int32) → (Nat → Int32) → (Nat → Int32) → (Nat → Int32) → (Nat → Int32) → (Nat → Int32) → (Nat → Int32) → (Nat → Int32) → (Nat → Int32) → (Nat → Int32) → (Nat → Int32) → (Nat → Int32) → Prop} {set : Int32} {oc i v : Nat} (hb : ((set >>> (nI v &&& 31)) &&& 1) = 0) (h : post (nI i) (yic, ysz, yfd, yls, ymd, ysa, ytk, ydp, yps, ybi, ysp, yus, ynx, yra, yrd, iK, iA, iB, FK, FA, FB, inp, lst, out, vs, yO, yN, yS, yT)) : ((nI 11 < 4 → wY_unset_46 post J set (nI oc) (nI i) (nI 11) (nI v) yic ysz yfd yls ymd ysa ytk ydp yps ybi ysp yus ynx yra yrd iK iA iB FK FA FB inp lst out vs yO yN yS yT) ∧ (¬ nI 11 < 4 → ((nI 11 ≤ 6 → wY_unset_60 post J set (nI oc) (nI i) (nI 11) (nI v) yic ysz yfd yls ymd ysa ytk ydp yps ybi ysp yus ynx yra yrd iK iA iB FK FA FB inp lst out vs yO yN yS yT) ∧ (¬ nI 11 ≤ 6 → wY_unset_46 post J set (nI oc) (nI i) (nI 11) (nI v) yic ysz yfd yls ymd ysa ytk ydp yps ybi ysp yus ynx yra yrd iK iA iB FK FA FB inp lst out vs yO yN yS yT)))) :=
  br_f (by decide) (br_f (by decide) (br_f (by decide) (br_t (by decide) (br_f (by decide) (br_t hb h)))))
theorem fu_lock {n : Nat} (hn : n ≤ 40) (G : fw_Good iK xM n) (hK : ∀ j, j < n → ∃ c : Nat, c ≤ 13 ∧ iK j = nI c) : ∀ (d i oc : Nat) (set : Int32) (xS yO yS yT : Nat → Int32), i + d = n → (fw_st iK i).length = oc → fw_U iK xS yO yS yT set (fw_st iK i) →
    ∃ (r : Int32) (xS' yO' yS' yT' : Nat → Int32), (∀ post : Int32 → SX → Prop, post r (nI n, xoc, xfc, xhf, xil, xll, xol, xea, xwr, xcu, xfo, xsp, xpo, xbl, xli, xvu, iK, iA, iB, xM, xO, xS', FK, FA, FB, FM, inp, lst, out, vs, xR, xL) → wX_findUnset_4 post (d + 1) set (nI i) (nI n) xoc xfc xhf xil xll xol xea xwr xcu xfo xsp xpo xbl xli xvu iK iA iB xM xO xS FK FA FB FM inp lst out vs xR xL) ∧ (∀ post : Int32 → SY → Prop, post r (nI n, ysz, yfd, yls, ymd, ysa, ytk, ydp, yps, ybi, ysp, yus, ynx, yra, yrd, iK, iA, iB, FK, FA, FB, inp, lst, out, vs, yO', yN, yS', yT') → wY_unset_6 post (nI n) ysz yfd yls ymd ysa ytk ydp yps ybi ysp yus ynx yra yrd (d + 1) set (nI oc) (nI i) iK iA iB FK FA FB inp lst out vs yO yN yS yT) ∧ (r = -1 ∨ (¬ r < 0 ∧ ¬ r = -1)) := by
  intro d
  induction d with
  | zero =>
    intro i oc set xS yO yS yT hi hoc hU
    have c1 : nI n ≤ nI i := nI_le (by omega) (by omega)
    exact ⟨-1, xS, yO, yS, yT, fun post hp => br_t c1 hp, fun post hp => br_t c1 hp, Or.inl rfl⟩
  | succ d ih =>
    intro i oc set xS yO yS yT hi hoc hU
    have W := G.1
    have c1 : ¬ nI n ≤ nI i := nI_ge (by omega) (by omega)
    have hi4 : i < 40 := by omega
    have vi : vp_in (nI i) 40 := vp_in_nI (by omega) (by omega)
    have ci : (nI i).toNatClampNeg = i := nI_clamp (by omega)
    have l4 := fw_len W i (by omega)
    rw [hoc] at l4
    obtain ⟨v, hv, ev⟩ := pk_andE (iB i) (m := 7) 3 (by decide)
    have hv8 : v < 8 := hv
    have eown : (1 : Int32) <<< ((iB (nI i).toNatClampNeg &&& 7) &&& 31) = (1 : Int32) <<< (nI v &&& 31) := by rw [ci, ev]
    have ev' : iB (nI i).toNatClampNeg &&& 7 = nI v := by rw [ci]; exact ev
    have hb := fb_has set (v := v) (by omega)
    have bad : ¬ nI i < 0 ∧ ¬ nI i = -1 := ⟨nI_pos (by omega), fx_m1 (by omega)⟩
    obtain ⟨c, hc, ec⟩ := hK i (by omega)
    have mlt : ∀ o e, (o, e) ∈ fw_st iK i → o ≠ i ∧ (e ≠ 0 → e ≠ i) := by
      intro o e hm
      have q1 := fw_mem_lt W i (by omega) o e hm
      have q2 := (fw_mem_op W i (by omega) o e hm).2
      refine ⟨by omega, fun z => ?_⟩
      rcases q2 with q2 | q2
      · exact absurd q2 z
      · omega
    have hU' : fw_U iK (upd xS i set) yO yS yT set (fw_st iK i) := fw_U_fr _ _ hU (fun o e hm => ⟨pk_un (mlt o e hm).1, fun z => pk_un ((mlt o e hm).2 z)⟩) (fun d hd => ⟨rfl, rfl, rfl⟩)
    have hcs : c = 0 ∨ c = 1 ∨ c = 2 ∨ c = 3 ∨ c = 4 ∨ c = 5 ∨ c = 6 ∨ c = 7 ∨ c = 8 ∨ c = 9 ∨ c = 10 ∨ c = 11 ∨ c = 12 ∨ c = 13 := by omega
    rcases hcs with rfl | rfl | rfl | rfl | rfl | rfl | rfl | rfl | rfl | rfl | rfl | rfl | rfl | rfl
    · have eK : iK (nI i).toNatClampNeg = nI 0 := by rw [ci]; exact ec
      have nop : ¬ fw_Op iK i := fw_nop ec (by decide) (by decide) (by decide)
      have n12 : ¬ iK i = 12 := by rw [ec]; decide
      have n13 : ¬ iK i = 13 := by rw [ec]; decide
      have hst := fw_st_no nop n12 n13
      obtain ⟨r, xS', yO', yS', yT', HX, HY, hr⟩ := ih (i + 1) oc (set ||| ((1 : Int32) <<< (nI v &&& 31))) (upd xS i set) yO yS yT (by omega) (by rw [hst]; exact hoc) (by rw [hst]; exact fw_U_m hU' (fw_ss_o _ (fw_ss_r _)))
      refine ⟨r, xS', yO', yS', yT', fun post hp => br_f c1 ⟨vi, nm_r eown ⟨vi, ?_⟩⟩, fun post hp => br_f c1 ⟨vi, nm_r eK ⟨vi, nm_r ev' (fu_Y0 (HY post hp))⟩⟩, hr⟩
      rw [eK]
      exact fx_ns0 (by decide) (by decide) (by decide) (br_t rfl (fu_X0 hi4 ec (nm_r (nI_1 i) (HX post hp))))
    · have eK : iK (nI i).toNatClampNeg = nI 1 := by rw [ci]; exact ec
      have nop : ¬ fw_Op iK i := fw_nop ec (by decide) (by decide) (by decide)
      have n12 : ¬ iK i = 12 := by rw [ec]; decide
      have n13 : ¬ iK i = 13 := by rw [ec]; decide
      have hst := fw_st_no nop n12 n13
      obtain ⟨r, xS', yO', yS', yT', HX, HY, hr⟩ := ih (i + 1) oc (set ||| ((1 : Int32) <<< (nI v &&& 31))) (upd xS i set) yO yS yT (by omega) (by rw [hst]; exact hoc) (by rw [hst]; exact fw_U_m hU' (fw_ss_o _ (fw_ss_r _)))
      refine ⟨r, xS', yO', yS', yT', fun post hp => br_f c1 ⟨vi, nm_r eown ⟨vi, ?_⟩⟩, fun post hp => br_f c1 ⟨vi, nm_r eK ⟨vi, nm_r ev' (fu_Y1 (HY post hp))⟩⟩, hr⟩
      rw [eK]
      exact fx_ns0 (by decide) (by decide) (by decide) (br_t rfl (fu_X1 hi4 ec (nm_r (nI_1 i) (HX post hp))))
    · have eK : iK (nI i).toNatClampNeg = nI 2 := by rw [ci]; exact ec
      have nop : ¬ fw_Op iK i := fw_nop ec (by decide) (by decide) (by decide)
      have n12 : ¬ iK i = 12 := by rw [ec]; decide
      have n13 : ¬ iK i = 13 := by rw [ec]; decide
      have hst := fw_st_no nop n12 n13
      obtain ⟨r, xS', yO', yS', yT', HX, HY, hr⟩ := ih (i + 1) oc (set ||| ((1 : Int32) <<< (nI v &&& 31))) (upd xS i set) yO yS yT (by omega) (by rw [hst]; exact hoc) (by rw [hst]; exact fw_U_m hU' (fw_ss_o _ (fw_ss_r _)))
      refine ⟨r, xS', yO', yS', yT', fun post hp => br_f c1 ⟨vi, nm_r eown ⟨vi, ?_⟩⟩, fun post hp => br_f c1 ⟨vi, nm_r eK ⟨vi, nm_r ev' (fu_Y2 (HY post hp))⟩⟩, hr⟩
      rw [eK]
      exact fx_ns0 (by decide) (by decide) (by decide) (br_t rfl (fu_X2 hi4 ec (nm_r (nI_1 i) (HX post hp))))
    · have eK : iK (nI i).toNatClampNeg = nI 3 := by rw [ci]; exact ec
      have nop : ¬ fw_Op iK i := fw_nop ec (by decide) (by decide) (by decide)
      have n12 : ¬ iK i = 12 := by rw [ec]; decide
      have n13 : ¬ iK i = 13 := by rw [ec]; decide
      have hst := fw_st_no nop n12 n13
      obtain ⟨r, xS', yO', yS', yT', HX, HY, hr⟩ := ih (i + 1) oc set (upd xS i set) yO yS yT (by omega) (by rw [hst]; exact hoc) (by rw [hst]; exact hU')
      refine ⟨r, xS', yO', yS', yT', fun post hp => br_f c1 ⟨vi, nm_r eown ⟨vi, ?_⟩⟩, fun post hp => br_f c1 ⟨vi, nm_r eK ⟨vi, nm_r ev' (fu_Y3 (HY post hp))⟩⟩, hr⟩
      rw [eK]
      exact fx_ns0 (by decide) (by decide) (by decide) (br_t rfl (fu_X3 hi4 ec (nm_r (nI_1 i) (HX post hp))))
    · have eK : iK (nI i).toNatClampNeg = nI 4 := by rw [ci]; exact ec
      have n12 : ¬ iK i = 12 := by rw [ec]; decide
      have n13 : ¬ iK i = 13 := by rw [ec]; decide
      by_cases hz : set &&& ((1 : Int32) <<< (nI v &&& 31)) = 0
      · refine ⟨nI i, xS, yO, yS, yT, fun post hp => br_f c1 ⟨vi, nm_r eown ⟨vi, ?_⟩⟩, fun post hp => br_f c1 ⟨vi, nm_r eK ⟨vi, nm_r ev' (fu_YF4 (hb.mpr hz) hp)⟩⟩, Or.inr bad⟩
        rw [eK]
        exact fx_ns1 (Or.inl (Or.inl rfl)) (br_f (by decide) (br_t hz hp))
      · have hz2 : ¬ ((set >>> (nI v &&& 31)) &&& 1) = 0 := fun z => hz (hb.mp z)
        have hop : fw_Op iK i := Or.inl ec
        have ho4 := (W i (by omega)).1 hop
        rw [hoc] at ho4
        have hst := fw_st_op hop
        have hU2 : fw_U iK (upd xS i set) (upd yO oc (nI 4)) (upd yS oc set) yT set (fw_st iK (i + 1)) := by
          rw [hst]
          refine ⟨by rw [hoc, pk_us, pk_us], fun _ => by rw [hoc, pk_us]; exact ec.symm, fun z => absurd rfl z, by rw [pk_us]; exact fw_ss_r _, ?_⟩
          rw [pk_us]
          exact fw_U_fr _ _ hU' (fun o e hm => ⟨rfl, fun _ => rfl⟩) (fun d hd => by rw [hoc] at hd; exact ⟨pk_un (by omega), pk_un (by omega), rfl⟩)
        obtain ⟨r, xS', yO', yS', yT', HX, HY, hr⟩ := ih (i + 1) (oc + 1) set (upd xS i set) (upd yO oc (nI 4)) (upd yS oc set) yT (by omega) (by rw [hst, List.length_cons, hoc]) (hU2)
        refine ⟨r, xS', yO', yS', yT', fun post hp => br_f c1 ⟨vi, nm_r eown ⟨vi, ?_⟩⟩, fun post hp => br_f c1 ⟨vi, nm_r eK ⟨vi, nm_r ev' (fu_Y4 ho4 hz2 (HY post hp))⟩⟩, hr⟩
        rw [eK]
        exact fx_ns1 (Or.inl (Or.inl rfl)) (br_f (by decide) (br_f hz (fu_X4 hi4 ec (nm_r (nI_1 i) (HX post hp)))))
    · have eK : iK (nI i).toNatClampNeg = nI 5 := by rw [ci]; exact ec
      have n12 : ¬ iK i = 12 := by rw [ec]; decide
      have n13 : ¬ iK i = 13 := by rw [ec]; decide
      by_cases hz : set &&& ((1 : Int32) <<< (nI v &&& 31)) = 0
      · refine ⟨nI i, xS, yO, yS, yT, fun post hp => br_f c1 ⟨vi, nm_r eown ⟨vi, ?_⟩⟩, fun post hp => br_f c1 ⟨vi, nm_r eK ⟨vi, nm_r ev' (fu_YF5 (hb.mpr hz) hp)⟩⟩, Or.inr bad⟩
        rw [eK]
        exact fx_ns1 (Or.inl (Or.inr (Or.inl rfl))) (br_f (by decide) (br_t hz hp))
      · have hz2 : ¬ ((set >>> (nI v &&& 31)) &&& 1) = 0 := fun z => hz (hb.mp z)
        have hop : fw_Op iK i := Or.inr (Or.inl ec)
        have ho4 := (W i (by omega)).1 hop
        rw [hoc] at ho4
        have hst := fw_st_op hop
        have hU2 : fw_U iK (upd xS i set) (upd yO oc (nI 5)) (upd yS oc set) yT set (fw_st iK (i + 1)) := by
          rw [hst]
          refine ⟨by rw [hoc, pk_us, pk_us], fun _ => by rw [hoc, pk_us]; exact ec.symm, fun z => absurd rfl z, by rw [pk_us]; exact fw_ss_r _, ?_⟩
          rw [pk_us]
          exact fw_U_fr _ _ hU' (fun o e hm => ⟨rfl, fun _ => rfl⟩) (fun d hd => by rw [hoc] at hd; exact ⟨pk_un (by omega), pk_un (by omega), rfl⟩)
        obtain ⟨r, xS', yO', yS', yT', HX, HY, hr⟩ := ih (i + 1) (oc + 1) set (upd xS i set) (upd yO oc (nI 5)) (upd yS oc set) yT (by omega) (by rw [hst, List.length_cons, hoc]) (hU2)
        refine ⟨r, xS', yO', yS', yT', fun post hp => br_f c1 ⟨vi, nm_r eown ⟨vi, ?_⟩⟩, fun post hp => br_f c1 ⟨vi, nm_r eK ⟨vi, nm_r ev' (fu_Y5 ho4 hz2 (HY post hp))⟩⟩, hr⟩
        rw [eK]
        exact fx_ns1 (Or.inl (Or.inr (Or.inl rfl))) (br_f (by decide) (br_f hz (fu_X5 hi4 ec (nm_r (nI_1 i) (HX post hp)))))
    · have eK : iK (nI i).toNatClampNeg = nI 6 := by rw [ci]; exact ec
      have n12 : ¬ iK i = 12 := by rw [ec]; decide
      have n13 : ¬ iK i = 13 := by rw [ec]; decide
      by_cases hz : set &&& ((1 : Int32) <<< (nI v &&& 31)) = 0
      · refine ⟨nI i, xS, yO, yS, yT, fun post hp => br_f c1 ⟨vi, nm_r eown ⟨vi, ?_⟩⟩, fun post hp => br_f c1 ⟨vi, nm_r eK ⟨vi, nm_r ev' (fu_YF6 (hb.mpr hz) hp)⟩⟩, Or.inr bad⟩
        rw [eK]
        exact fx_ns1 (Or.inl (Or.inr (Or.inr rfl))) (br_f (by decide) (br_t hz hp))
      · have hz2 : ¬ ((set >>> (nI v &&& 31)) &&& 1) = 0 := fun z => hz (hb.mp z)
        have hop : fw_Op iK i := Or.inr (Or.inr ec)
        have ho4 := (W i (by omega)).1 hop
        rw [hoc] at ho4
        have hst := fw_st_op hop
        have hU2 : fw_U iK (upd xS i set) (upd yO oc (nI 6)) (upd yS oc set) yT set (fw_st iK (i + 1)) := by
          rw [hst]
          refine ⟨by rw [hoc, pk_us, pk_us], fun _ => by rw [hoc, pk_us]; exact ec.symm, fun z => absurd rfl z, by rw [pk_us]; exact fw_ss_r _, ?_⟩
          rw [pk_us]
          exact fw_U_fr _ _ hU' (fun o e hm => ⟨rfl, fun _ => rfl⟩) (fun d hd => by rw [hoc] at hd; exact ⟨pk_un (by omega), pk_un (by omega), rfl⟩)
        obtain ⟨r, xS', yO', yS', yT', HX, HY, hr⟩ := ih (i + 1) (oc + 1) set (upd xS i set) (upd yO oc (nI 6)) (upd yS oc set) yT (by omega) (by rw [hst, List.length_cons, hoc]) (hU2)
        refine ⟨r, xS', yO', yS', yT', fun post hp => br_f c1 ⟨vi, nm_r eown ⟨vi, ?_⟩⟩, fun post hp => br_f c1 ⟨vi, nm_r eK ⟨vi, nm_r ev' (fu_Y6 ho4 hz2 (HY post hp))⟩⟩, hr⟩
        rw [eK]
        exact fx_ns1 (Or.inl (Or.inr (Or.inr rfl))) (br_f (by decide) (br_f hz (fu_X6 hi4 ec (nm_r (nI_1 i) (HX post hp)))))
    · have eK : iK (nI i).toNatClampNeg = nI 7 := by rw [ci]; exact ec
      have nop : ¬ fw_Op iK i := fw_nop ec (by decide) (by decide) (by decide)
      have n12 : ¬ iK i = 12 := by rw [ec]; decide
      have n13 : ¬ iK i = 13 := by rw [ec]; decide
      have hst := fw_st_no nop n12 n13
      obtain ⟨r, xS', yO', yS', yT', HX, HY, hr⟩ := ih (i + 1) oc set (upd xS i set) yO yS yT (by omega) (by rw [hst]; exact hoc) (by rw [hst]; exact hU')
      refine ⟨r, xS', yO', yS', yT', fun post hp => br_f c1 ⟨vi, nm_r eown ⟨vi, ?_⟩⟩, fun post hp => br_f c1 ⟨vi, nm_r eK ⟨vi, nm_r ev' (fu_Y7 (HY post hp))⟩⟩, hr⟩
      rw [eK]
      exact fx_ns0 (by decide) (by decide) (by decide) (br_t rfl (fu_X7 hi4 ec (nm_r (nI_1 i) (HX post hp))))
    · have eK : iK (nI i).toNatClampNeg = nI 8 := by rw [ci]; exact ec
      have nop : ¬ fw_Op iK i := fw_nop ec (by decide) (by decide) (by decide)
      have n12 : ¬ iK i = 12 := by rw [ec]; decide
      have n13 : ¬ iK i = 13 := by rw [ec]; decide
      have hst := fw_st_no nop n12 n13
      obtain ⟨r, xS', yO', yS', yT', HX, HY, hr⟩ := ih (i + 1) oc set (upd xS i set) yO yS yT (by omega) (by rw [hst]; exact hoc) (by rw [hst]; exact hU')
      refine ⟨r, xS', yO', yS', yT', fun post hp => br_f c1 ⟨vi, nm_r eown ⟨vi, ?_⟩⟩, fun post hp => br_f c1 ⟨vi, nm_r eK ⟨vi, nm_r ev' (fu_Y8 (HY post hp))⟩⟩, hr⟩
      rw [eK]
      exact fx_ns0 (by decide) (by decide) (by decide) (br_t rfl (fu_X8 hi4 ec (nm_r (nI_1 i) (HX post hp))))
    · have eK : iK (nI i).toNatClampNeg = nI 9 := by rw [ci]; exact ec
      have nop : ¬ fw_Op iK i := fw_nop ec (by decide) (by decide) (by decide)
      have n12 : ¬ iK i = 12 := by rw [ec]; decide
      have n13 : ¬ iK i = 13 := by rw [ec]; decide
      by_cases hz : set &&& ((1 : Int32) <<< (nI v &&& 31)) = 0
      · refine ⟨nI i, xS, yO, yS, yT, fun post hp => br_f c1 ⟨vi, nm_r eown ⟨vi, ?_⟩⟩, fun post hp => br_f c1 ⟨vi, nm_r eK ⟨vi, nm_r ev' (fu_YF9 (hb.mpr hz) hp)⟩⟩, Or.inr bad⟩
        rw [eK]
        exact fx_ns1 (Or.inr (Or.inl rfl)) (br_f (by decide) (br_t hz hp))
      · have hz2 : ¬ ((set >>> (nI v &&& 31)) &&& 1) = 0 := fun z => hz (hb.mp z)
        have hst := fw_st_no nop n12 n13
        obtain ⟨r, xS', yO', yS', yT', HX, HY, hr⟩ := ih (i + 1) oc set (upd xS i set) yO yS yT (by omega) (by rw [hst]; exact hoc) (by rw [hst]; exact hU')
        refine ⟨r, xS', yO', yS', yT', fun post hp => br_f c1 ⟨vi, nm_r eown ⟨vi, ?_⟩⟩, fun post hp => br_f c1 ⟨vi, nm_r eK ⟨vi, nm_r ev' (fu_Y9 hz2 (HY post hp))⟩⟩, hr⟩
        rw [eK]
        exact fx_ns1 (Or.inr (Or.inl rfl)) (br_f (by decide) (br_f hz (fu_X9 hi4 ec (nm_r (nI_1 i) (HX post hp)))))
    · have eK : iK (nI i).toNatClampNeg = nI 10 := by rw [ci]; exact ec
      have nop : ¬ fw_Op iK i := fw_nop ec (by decide) (by decide) (by decide)
      have n12 : ¬ iK i = 12 := by rw [ec]; decide
      have n13 : ¬ iK i = 13 := by rw [ec]; decide
      have hst := fw_st_no nop n12 n13
      obtain ⟨r, xS', yO', yS', yT', HX, HY, hr⟩ := ih (i + 1) oc (set ||| ((1 : Int32) <<< (nI v &&& 31))) (upd xS i set) yO yS yT (by omega) (by rw [hst]; exact hoc) (by rw [hst]; exact fw_U_m hU' (fw_ss_o _ (fw_ss_r _)))
      refine ⟨r, xS', yO', yS', yT', fun post hp => br_f c1 ⟨vi, nm_r eown ⟨vi, ?_⟩⟩, fun post hp => br_f c1 ⟨vi, nm_r eK ⟨vi, nm_r ev' (fu_Y10 (HY post hp))⟩⟩, hr⟩
      rw [eK]
      exact fx_ns0 (by decide) (by decide) (by decide) (br_t rfl (fu_X10 hi4 ec (nm_r (nI_1 i) (HX post hp))))
    · have eK : iK (nI i).toNatClampNeg = nI 11 := by rw [ci]; exact ec
      have nop : ¬ fw_Op iK i := fw_nop ec (by decide) (by decide) (by decide)
      have n12 : ¬ iK i = 12 := by rw [ec]; decide
      have n13 : ¬ iK i = 13 := by rw [ec]; decide
      by_cases hz : set &&& ((1 : Int32) <<< (nI v &&& 31)) = 0
      · refine ⟨nI i, xS, yO, yS, yT, fun post hp => br_f c1 ⟨vi, nm_r eown ⟨vi, ?_⟩⟩, fun post hp => br_f c1 ⟨vi, nm_r eK ⟨vi, nm_r ev' (fu_YF11 (hb.mpr hz) hp)⟩⟩, Or.inr bad⟩
        rw [eK]
        exact fx_ns1 (Or.inr (Or.inr rfl)) (br_f (by decide) (br_t hz hp))
      · have hz2 : ¬ ((set >>> (nI v &&& 31)) &&& 1) = 0 := fun z => hz (hb.mp z)
        have hst := fw_st_no nop n12 n13
        obtain ⟨r, xS', yO', yS', yT', HX, HY, hr⟩ := ih (i + 1) oc (set ||| ((1 : Int32) <<< (nI v &&& 31))) (upd xS i set) yO yS yT (by omega) (by rw [hst]; exact hoc) (by rw [hst]; exact fw_U_m hU' (fw_ss_o _ (fw_ss_r _)))
        refine ⟨r, xS', yO', yS', yT', fun post hp => br_f c1 ⟨vi, nm_r eown ⟨vi, ?_⟩⟩, fun post hp => br_f c1 ⟨vi, nm_r eK ⟨vi, nm_r ev' (fu_Y11 hz2 (HY post hp))⟩⟩, hr⟩
        rw [eK]
        exact fx_ns1 (Or.inr (Or.inr rfl)) (br_f (by decide) (br_f hz (fu_X11 hi4 ec (nm_r (nI_1 i) (HX post hp)))))
    · have eK : iK (nI i).toNatClampNeg = nI 12 := by rw [ci]; exact ec
      have nop : ¬ fw_Op iK i := fw_nop ec (by decide) (by decide) (by decide)
      have n13 : ¬ iK i = 13 := by rw [ec]; decide
      obtain ⟨o, s, hs, ho5⟩ := (W i (by omega)).2.1 ec
      obtain ⟨t, t1, t2, t3, t4, t5, t6, t7⟩ := fw_G_el G (by omega) ec hs
      obtain ⟨a1, a2, a3, a4⟩ := fw_hd W i (by omega) o 0 s hs
      have hst := fw_st_el ec hs
      rw [hs] at hU' hoc
      have eo : oc = s.length + 1 := hoc.symm
      obtain ⟨u1, u2, u3, u4, u5⟩ := hU'
      have uo : upd xS i set o = xS o := pk_un (by omega)
      have hU2 : fw_U iK (upd xS i set) (upd yO s.length 12) yS (upd yT s.length set) (yS s.length) (fw_st iK (i + 1)) := by
        rw [hst]
        refine ⟨u1, fun z => by omega, fun _ => ⟨pk_us, by rw [pk_us, pk_us], by rw [pk_us]; exact u4⟩, by rw [u1]; exact fw_ss_r _, ?_⟩
        exact fw_U_fr _ _ u5 (fun o e hm => ⟨rfl, fun _ => rfl⟩) (fun d hd => ⟨pk_un (by omega), rfl, pk_un (by omega)⟩)
      have us : yS s.length = xS o := by rw [u1]; exact uo
      obtain ⟨r, xS', yO', yS', yT', HX, HY, hr⟩ := ih (i + 1) oc (yS s.length) (upd xS i set) (upd yO s.length 12) yS (upd yT s.length set) (by omega) (by rw [hst]; exact hoc) (hU2)
      refine ⟨r, xS', yO', yS', yT', fun post hp => br_f c1 ⟨vi, nm_r eown ⟨vi, ?_⟩⟩, fun post hp => br_f c1 ⟨vi, nm_r eK ⟨vi, nm_r ev' (fu_Y12 eo l4 (HY post hp))⟩⟩, hr⟩
      rw [eK]
      exact fx_ns0 (by decide) (by decide) (by decide) (br_t rfl (fu_X12 (t := t) (o := o) hi4 ec (by omega) (by omega) t5 t6 (by omega) (by rw [← us]; exact (nm_r (nI_1 i) (HX post hp)))))
    · have eK : iK (nI i).toNatClampNeg = nI 13 := by rw [ci]; exact ec
      have nop : ¬ fw_Op iK i := fw_nop ec (by decide) (by decide) (by decide)
      have n12 : ¬ iK i = 12 := by rw [ec]; decide
      obtain ⟨o, e, s, hs⟩ := (W i (by omega)).2.2 ec
      obtain ⟨t1, t2, t3⟩ := G.2.2 i (by omega) ec o e s hs
      obtain ⟨a1, a2, a3, a4⟩ := fw_hd W i (by omega) o e s hs
      have hst := fw_st_en ec hs
      rw [hs] at hU' hoc
      have eo : oc = s.length + 1 := hoc.symm
      obtain ⟨u1, u2, u3, u4, u5⟩ := hU'
      have uo : upd xS i set o = xS o := pk_un (by omega)
      by_cases he : e = 0
      · by_cases h6 : iK o = 6
        · obtain ⟨r, xS', yO', yS', yT', HX, HY, hr⟩ := ih (i + 1) s.length set (upd xS i set) yO yS yT (by omega) (by rw [hst]) (by rw [hst]; exact fw_U_m u5 u4)
          refine ⟨r, xS', yO', yS', yT', fun post hp => br_f c1 ⟨vi, nm_r eown ⟨vi, ?_⟩⟩, fun post hp => br_f c1 ⟨vi, nm_r eK ⟨vi, nm_r ev' (fu_Y13_b eo l4 ((u2 he).trans h6) (HY post hp))⟩⟩, hr⟩
          rw [eK]
          exact fx_ns0 (by decide) (by decide) (by decide) (br_t rfl (fu_X13_b (o := o) hi4 ec (by omega) t1 h6 (nm_r (nI_1 i) (HX post hp))))
        · have us : yS s.length = set &&& xS o := by rw [u1]; rw [uo] at u4 ⊢; exact (fw_ss_e u4).symm
          obtain ⟨r, xS', yO', yS', yT', HX, HY, hr⟩ := ih (i + 1) s.length (yS s.length) (upd xS i set) yO yS yT (by omega) (by rw [hst]) (by rw [hst, u1]; exact u5)
          refine ⟨r, xS', yO', yS', yT', fun post hp => br_f c1 ⟨vi, nm_r eown ⟨vi, ?_⟩⟩, fun post hp => br_f c1 ⟨vi, nm_r eK ⟨vi, nm_r ev' (fu_Y13_0 eo l4 (by rw [u2 he]; rcases a2 with z | z | z <;> rw [z] <;> decide) (by rw [u2 he]; exact h6) (HY post hp))⟩⟩, hr⟩
          rw [eK]
          exact fx_ns0 (by decide) (by decide) (by decide) (br_t rfl (fu_X13_0 (o := o) hi4 ec (by omega) t1 h6 (t2 he) (by omega) (by rw [← us]; exact (nm_r (nI_1 i) (HX post hp)))))
      · obtain ⟨w1, w2⟩ := t3 he
        obtain ⟨p1, p2, p3⟩ := u3 he
        have a3' := a3.resolve_left he
        have h6 : ¬ iK o = 6 := by rw [a3'.2.2.2.1]; decide
        have ue : upd xS i set e = xS e := pk_un (by omega)
        have us : set &&& yT s.length = set &&& xS e := by rw [p2, ue]
        obtain ⟨r, xS', yO', yS', yT', HX, HY, hr⟩ := ih (i + 1) s.length (set &&& yT s.length) (upd xS i set) yO yS yT (by omega) (by rw [hst]) (by rw [hst, p2]; exact fw_U_m u5 (fw_ss_a u4 p3))
        refine ⟨r, xS', yO', yS', yT', fun post hp => br_f c1 ⟨vi, nm_r eown ⟨vi, ?_⟩⟩, fun post hp => br_f c1 ⟨vi, nm_r eK ⟨vi, nm_r ev' (fu_Y13_e eo l4 p1 (HY post hp))⟩⟩, hr⟩
        rw [eK]
        exact fx_ns0 (by decide) (by decide) (by decide) (br_t rfl (fu_X13_e (o := o) (e := e) hi4 ec (by omega) (by omega) t1 h6 w1 (by omega) (by rw [← us]; exact (nm_r (nI_1 i) (HX post hp)))))
end
end
section
/-! compile: the copy, and the whole -/
section
variable {xic xoc xfc xhf xil xll xol xea xwr xcu xfo xsp xpo xbl xli xvu yic ysz yfd yls ymd ysa ytk ydp yps ybi ysp yus ynx yra yrd : Int32} {iK iA iB xM xO xS FK FA FB FM inp lst out vs xR xL yO yN yS yT : Nat → Int32}
theorem fd_X {n : Nat} (hn : n ≤ 40) {post : SX → Prop} (hp : post (nI n, xoc, nI n, 1, xil, xll, xol, xea, xwr, xcu, xfo, xsp, xpo, xbl, xli, xvu, iK, iA, iB, xM, xO, xS, fw_cp iK FK n, fw_cp iA FA n, fw_cp iB FB n, fw_cp xM FM n, inp, lst, out, vs, xR, xL)) : ∀ d i : Nat, i + d = n → wX_adoptItems_2 post (nI n) xoc xfc xhf xil xll xol xea xwr xcu xfo xsp xpo xbl xli xvu (d + 1) (nI i) iK iA iB xM xO xS (fw_cp iK FK i) (fw_cp iA FA i) (fw_cp iB FB i) (fw_cp xM FM i) inp lst out vs xR xL := by
  intro d
  induction d with
  | zero =>
    intro i hi
    have e : i = n := by omega
    rw [e]
    exact br_t (nI_le (by omega) (by omega)) hp
  | succ d ih =>
    intro i hi
    have c1 : ¬ nI n ≤ nI i := nI_ge (by omega) (by omega)
    have vi : vp_in (nI i) 40 := vp_in_nI (by omega) (by omega)
    have ci : (nI i).toNatClampNeg = i := nI_clamp (by omega)
    exact br_f c1 ⟨vi, vi, nm_r (by rw [ci, fw_cp_s]) ⟨vi, vi, nm_r (by rw [ci, fw_cp_s]) ⟨vi, vi, nm_r (by rw [ci, fw_cp_s]) ⟨vi, vi, nm_r (by rw [ci, fw_cp_s]) (nm_r (nI_1 i) (ih (i + 1) (by omega)))⟩⟩⟩⟩
theorem fd_Y {n : Nat} (hn : n ≤ 40) {post : Int32 → SY → Prop} (hp : post 0 (nI n, ysz, yfd, yls, ymd, ysa, ytk, ydp, yps, ybi, ysp, yus, ynx, yra, yrd, iK, iA, iB, fw_cp iK FK n, fw_cp iA FA n, fw_cp iB FB n, inp, lst, out, vs, yO, yN, yS, yT)) : ∀ d i : Nat, i + d = n → wY_compile_44 post (nI n) ysz yfd yls ymd ysa ytk ydp yps ybi ysp yus ynx yra yrd (d + 1) (nI i) iK iA iB (fw_cp iK FK i) (fw_cp iA FA i) (fw_cp iB FB i) inp lst out vs yO yN yS yT := by
  intro d
  induction d with
  | zero =>
    intro i hi
    have e : i = n := by omega
    rw [e]
    exact br_t (nI_le (by omega) (by omega)) hp
  | succ d ih =>
    intro i hi
    have c1 : ¬ nI n ≤ nI i := nI_ge (by omega) (by omega)
    have vi : vp_in (nI i) 40 := vp_in_nI (by omega) (by omega)
    have ci : (nI i).toNatClampNeg = i := nI_clamp (by omega)
    exact br_f c1 ⟨vi, vi, nm_r (by rw [ci, fw_cp_s]) ⟨vi, vi, nm_r (by rw [ci, fw_cp_s]) ⟨vi, vi, nm_r (by rw [ci, fw_cp_s]) (nm_r (nI_1 i) (ih (i + 1) (by omega)))⟩⟩⟩
theorem fd_X0 {n : Nat} (hn : n ≤ 40) {post : SX → Prop} (hp : post (nI n, xoc, nI n, 1, xil, xll, xol, xea, xwr, xcu, xfo, xsp, xpo, xbl, xli, xvu, iK, iA, iB, xM, xO, xS, fw_cp iK FK n, fw_cp iA FA n, fw_cp iB FB n, fw_cp xM FM n, inp, lst, out, vs, xR, xL)) : wpX_adoptItems post (nI n, xoc, xfc, xhf, xil, xll, xol, xea, xwr, xcu, xfo, xsp, xpo, xbl, xli, xvu, iK, iA, iB, xM, xO, xS, FK, FA, FB, FM, inp, lst, out, vs, xR, xL) := by
  have h := fd_X hn hp n 0 (by omega) (xfc := xfc) (xhf := xhf)
  rw [fw_cp_0, fw_cp_0, fw_cp_0, fw_cp_0] at h
  exact ⟨n + 1, h⟩
end
theorem i_vc_compile {k : Nat} {u : SX} {v : SY} (I : i_Rel k u v) (hk : k + 4 ≤ 2048) : wpX_compile (fun r u' => wpY_compile (fun r' v' => r' = r ∧ i_Rel (k + 4) u' v') v) u := by
  obtain ⟨xic, xoc, xfc, xhf, xil, xll, xol, xea, xwr, xcu, xfo, xsp, xpo, xbl, xli, xvu, iK, iA, iB, xM, xO, xS, FK, FA, FB, FM, inp, lst, out, vs, xR, xL⟩ := u
  obtain ⟨yic, ysz, yfd, yls, ymd, ysa, ytk, ydp, yps, ybi, ysp, yus, ynx, yra, yrd, yK, yA, yB, zK, zA, zB, yin, ylst, yout, yvs, yO, yN, yS, yT⟩ := v
  obtain ⟨n, fd, ll, md, rfl, rfl, rfl, rfl, rfl, rfl, rfl, rfl, rfl, rfl, rfl, rfl, rfl, rfl, rfl, rfl, rfl, rfl, rfl, rfl, h1, h2, h3, h4, h5, h6⟩ := I
  have hK : ∀ j, j < n → ∃ c : Nat, c ≤ 13 ∧ iK j = nI c := by
    intro j hj
    obtain ⟨c, q1, q2, _⟩ := h5 j hj
    exact ⟨c, q1, q2⟩
  obtain ⟨r, oc', xO', xM', yO', HX, HY, hr⟩ := fc_lock h1 hK n 0 0 xO xM yO (by omega) (fw_Wf_0 iK) rfl trivial (fun i hi => absurd hi (Nat.not_lt_zero i)) (fun o e hm => by cases hm) (xfc := xfc) (xhf := xhf) (xil := nI fd) (xll := nI ll) (xol := nI md) (xea := xea) (xwr := xwr) (xcu := xcu) (xfo := xfo) (xsp := xsp) (xpo := xpo) (xbl := xbl) (xli := xli) (xvu := xvu) (iA := iA) (iB := iB) (xS := xS) (FK := FK) (FA := FA) (FB := FB) (FM := FM) (inp := inp) (lst := lst) (out := out) (vs := vs) (xR := xR) (xL := xL) (ysz := ysz) (yfd := nI fd) (yls := nI ll) (ymd := nI md) (ysa := xea) (ytk := xpo) (ydp := ydp) (yps := yps) (ybi := ybi) (ysp := ysp) (yus := yus) (ynx := ynx) (yra := yra) (yrd := yrd) (yN := yN) (yS := yS) (yT := yT)
  unfold wpX_compile
  dsimp only
  refine ⟨n + 1, HX _ ?_⟩
  rcases hr with ⟨rfl, G⟩ | ⟨r1, r2⟩
  · refine br_t rfl ?_
    obtain ⟨r', xS', yO2, yS2, yT2, HX2, HY2, hr2⟩ := fu_lock h1 G hK n 0 0 0 xS yO' yS yT (by omega) rfl trivial (xoc := oc') (xfc := xfc) (xhf := xhf) (xil := nI fd) (xll := nI ll) (xol := nI md) (xea := -1) (xwr := xwr) (xcu := xcu) (xfo := xfo) (xsp := xsp) (xpo := xpo) (xbl := xbl) (xli := xli) (xvu := xvu) (iA := iA) (iB := iB) (xO := xO') (FK := FK) (FA := FA) (FB := FB) (FM := FM) (inp := inp) (lst := lst) (out := out) (vs := vs) (xR := xR) (xL := xL) (ysz := ysz) (yfd := nI fd) (yls := nI ll) (ymd := nI md) (ysa := -1) (ytk := xpo) (ydp := ydp) (yps := yps) (ybi := ybi) (ysp := ysp) (yus := yus) (ynx := ynx) (yra := yra) (yrd := yrd) (yN := yN)
    refine ⟨n + 1, HX2 _ ?_⟩
    rcases hr2 with rfl | ⟨r3, r4⟩
    · refine br_t rfl (fd_X0 h1 ?_)
      unfold wpY_compile
      dsimp only
      refine ⟨n + 1, HY _ (br_t (by decide) ⟨n + 1, HY2 _ (br_t (by decide) ⟨n + 1, ?_⟩)⟩)⟩
      have h := fd_Y h1 (iK := iK) (iA := iA) (iB := iB) (FK := FK) (FA := FA) (FB := FB) (post := fun r' v' => r' = 0 ∧ i_Rel (k + 4) (nI n, oc', nI n, 1, nI fd, nI ll, nI md, -1, xwr, xcu, xfo, xsp, xpo, xbl, xli, xvu, iK, iA, iB, xM', xO', xS', fw_cp iK FK n, fw_cp iA FA n, fw_cp iB FB n, fw_cp xM' FM n, inp, lst, out, vs, xR, xL) v') (ysz := nI n) (yfd := nI fd) (yls := nI ll) (ymd := nI md) (ysa := -1) (ytk := xpo) (ydp := ydp) (yps := yps) (ybi := ybi) (ysp := ysp) (yus := yus) (ynx := ynx) (yra := yra) (yrd := yrd) (inp := inp) (lst := lst) (out := out) (vs := vs) (yO := yO2) (yN := yN) (yS := yS2) (yT := yT2) ?_ n 0 (by omega)
      · rw [fw_cp_0, fw_cp_0, fw_cp_0] at h
        exact h
      · refine ⟨rfl, n, fd, ll, md, rfl, rfl, rfl, rfl, rfl, rfl, rfl, rfl, rfl, rfl, rfl, rfl, rfl, rfl, rfl, rfl, rfl, rfl, rfl, rfl, h1, h2, h3, h4, h5, Or.inr ⟨rfl, n, rfl, rfl, h1, ?_, ?_⟩⟩
        · exact fw_Good_congr G (fun j hj => (fw_cp_lt hj).symm) (fun j hj => (fw_cp_lt hj).symm)
        · intro j hj
          rw [fw_cp_lt hj, fw_cp_lt hj]
          exact h5 j hj
    · refine br_f r4 ?_
      unfold wpY_compile
      dsimp only
      refine ⟨n + 1, HY _ (br_t (by decide) ⟨n + 1, HY2 _ (br_f r3 ?_)⟩)⟩
      exact ⟨rfl, n, fd, ll, md, rfl, rfl, rfl, rfl, rfl, rfl, rfl, rfl, rfl, rfl, rfl, rfl, rfl, rfl, rfl, rfl, rfl, rfl, rfl, rfl, h1, h2, h3, h4, h5, h6⟩
  · refine br_f r2 ?_
    unfold wpY_compile
    dsimp only
    refine ⟨n + 1, HY _ (br_f r1 ?_)⟩
    exact ⟨rfl, n, fd, ll, md, rfl, rfl, rfl, rfl, rfl, rfl, rfl, rfl, rfl, rfl, rfl, rfl, rfl, rfl, rfl, rfl, rfl, rfl, rfl, rfl, h1, h2, h3, h4, h5, h6⟩
end
section
/-! a run: limits, closing, what comes before the item -/
def fw_base (w : Bool) (fd : Nat) : Nat := if w then 64 else fd
def fw_pad (w : Bool) (inp : Nat → Int32) (p b : Nat) : Prop := w = false ∧ 0 < b ∧ ¬ (inp (p - 1) &&& (((1 : Int32) <<< (nI b &&& 31)) - 1)) = 0
def fw_clo (c : Nat) : Prop := c = 0 ∨ c = 1 ∨ c = 3 ∨ c = 6 ∨ c = 7 ∨ c = 8
theorem fy_s1 (l : Nat) : nI l - 1 = nI l + (-1) := by
  cases l with
  | zero => decide
  | succ l => rw [nI_pred, pk_m1]
section
variable {xic xoc xfc xhf xil xll xol xea xwr xcu xfo xsp xpo xbl xli xvu yic ysz yfd yls ymd ysa ytk ydp yps ybi ysp yus ynx yra yrd : Int32} {iK iA iB xM xO xS FK FA FB FM inp lst out vs xR xL yO yN yS yT : Nat → Int32}
variable {N fd ll i sp p b lim us dp base S : Nat} {w : Bool}
theorem ry_lim {post : Int32 → Prop} (hfd : fd ≤ 64) : ∀ (s : List (Nat × Nat)) (lim S m : Nat), fw_R FK xR xL yO yN (fw_base w fd) lim S s → s.length ≤ 4 → (∀ o e, (o, e) ∈ s → o < 40) → post (nI lim) → s.length < m → wY_limit_7 post yic (nI N) (nI fd) (nI ll) ymd ysa ytk (nI dp) (nI p) (nI b) (nI sp) (nI us) ynx yra (fw_r w) iK iA iB FK FA FB inp lst out vs yO yN yS yT m (nI s.length + (-1)) := by
  intro s
  induction s with
  | nil =>
    intro lim S m h hl hm hp hn
    cases m with
    | zero => omega
    | succ m =>
      obtain ⟨h1, h2⟩ := h
      refine br_t (by decide) ?_
      cases w with
      | false =>
        have e : lim = fd := h1
        rw [e] at hp
        exact br_f (by decide) hp
      | true =>
        have e : lim = 64 := h1
        rw [e] at hp
        exact br_t (by decide) hp
  | cons a s ih =>
    intro lim S m h hl hm hp hn
    obtain ⟨o, e⟩ := a
    cases m with
    | zero => omega
    | succ m =>
      have hl' : s.length + 1 ≤ 4 := hl
      have hn' : s.length + 1 < m + 1 := hn
      have ho := hm o e (List.mem_cons.mpr (Or.inl rfl))
      have hm' : ∀ o e, (o, e) ∈ s → o < 40 := fun o' e' q => hm o' e' (List.mem_cons.mpr (Or.inr q))
      have e1 : nI ((o, e) :: s).length + (-1) = nI s.length := pk_m1 s.length
      rw [e1]
      have v5 : vp_in (nI s.length) 5 := vp_in_nI (by omega) (by omega)
      have cs : (nI s.length).toNatClampNeg = s.length := nI_clamp (by omega)
      have eo : yO (nI s.length).toNatClampNeg = nI o := by rw [cs]; exact fw_R_op h
      have vo : vp_in (yO (nI s.length).toNatClampNeg) 40 := by rw [eo]; exact vp_in_nI ho (by omega)
      have ek : FK (yO (nI s.length).toNatClampNeg).toNatClampNeg = FK o := by rw [eo, nI_clamp (by omega)]
      have en : yN (nI s.length).toNatClampNeg = yN s.length := by rw [cs]
      obtain ⟨_, h⟩ := h
      rcases h with z | z | z
      · obtain ⟨z0, x, S', _, _, _, _, _, z⟩ := z
        refine br_f (nI_pos (by omega)) ⟨v5, vo, br_f (by rw [ek, z0]; decide) (nm_e ?_)⟩
        exact ih lim S' m z (by omega) hm' hp (by omega)
      · refine br_f (nI_pos (by omega)) ⟨v5, vo, br_f (by rw [ek, z.1]; decide) (nm_e ?_)⟩
        exact ih lim S m z.2 (by omega) hm' hp (by omega)
      · obtain ⟨z0, z1, _⟩ := z
        refine br_f (nI_pos (by omega)) ⟨v5, vo, br_t (by rw [ek]; exact z0) ⟨v5, ?_⟩⟩
        rw [en, z1]
        exact hp
theorem ry_limit {post : Int32 → Prop} (W : fw_Wf FK N) (hN : N ≤ 40) (hi : i < N) (hfd : fd ≤ 64) (R : fw_R FK xR xL yO yN (fw_base w fd) lim S (fw_st FK i)) (hd : dp = (fw_st FK i).length) (hp : post (nI lim)) : wpY_limit post (yic, nI N, nI fd, nI ll, ymd, ysa, ytk, nI dp, nI p, nI b, nI sp, nI us, ynx, yra, fw_r w, iK, iA, iB, FK, FA, FB, inp, lst, out, vs, yO, yN, yS, yT) := by
  have l4 := fw_len W i (by omega)
  refine nm_r (fy_s1 dp) ⟨dp + 1, ?_⟩
  subst hd
  exact ry_lim hfd (fw_st FK i) lim S _ R l4 (fun o e hm => by have := fw_mem_lt W i (by omega) o e hm; omega) hp (by omega)
theorem ry_room1 {post : Int32 → Prop} {m : Nat} (W : fw_Wf FK N) (hN : N ≤ 40) (hi : i < N) (hfd : fd ≤ 64) (R : fw_R FK xR xL yO yN (fw_base w fd) lim S (fw_st FK i)) (hd : dp = (fw_st FK i).length) (hlim : lim ≤ 64) (h : p + m ≤ lim) (hp : post 1) : wpY_room post (yic, nI N, nI fd, nI ll, ymd, ysa, ytk, nI dp, nI p, nI b, nI sp, nI us, ynx, yra, fw_r w, iK, iA, iB, FK, FA, FB, inp, lst, out, vs, yO, yN, yS, yT) (nI m) := by
  unfold wpY_room
  refine ry_limit W hN hi hfd R hd ?_
  refine br_f ?_ hp
  rw [pk_sub (by omega)]
  exact nI_nlt (by omega) (by omega)
theorem ry_room0 {post : Int32 → Prop} {m : Nat} (W : fw_Wf FK N) (hN : N ≤ 40) (hi : i < N) (hfd : fd ≤ 64) (R : fw_R FK xR xL yO yN (fw_base w fd) lim S (fw_st FK i)) (hd : dp = (fw_st FK i).length) (hlim : lim ≤ 64) (hpl : p ≤ lim) (hm : m < 2 ^ 31) (h : lim < p + m) (hp : post 0) : wpY_room post (yic, nI N, nI fd, nI ll, ymd, ysa, ytk, nI dp, nI p, nI b, nI sp, nI us, ynx, yra, fw_r w, iK, iA, iB, FK, FA, FB, inp, lst, out, vs, yO, yN, yS, yT) (nI m) := by
  unfold wpY_room
  refine ry_limit W hN hi hfd R hd ?_
  refine br_t ?_ hp
  rw [pk_sub (by omega)]
  exact nI_lt (by omega) hm
/-! closing the bits -/
theorem rx_cl1 {post : Int32 → SX → Prop} (h : ¬ fw_pad w inp p b) (hb : b ≤ 7) (hbp : 0 < b → 0 < p) (hp : p ≤ 64) (H : post 1 (xic, xoc, nI N, xhf, nI fd, nI ll, xol, xea, fw_w w, nI i, xfo, nI sp, nI p, nI 0, nI lim, nI us, iK, iA, iB, xM, xO, xS, FK, FA, FB, FM, inp, lst, out, vs, xR, xL)) : wpX_closeBits post (xic, xoc, nI N, xhf, nI fd, nI ll, xol, xea, fw_w w, nI i, xfo, nI sp, nI p, nI b, nI lim, nI us, iK, iA, iB, xM, xO, xS, FK, FA, FB, FM, inp, lst, out, vs, xR, xL) := by
  cases w with
  | true => exact br_f (by decide) H
  | false =>
    by_cases h0 : b = 0
    · subst h0
      exact br_t (by decide) (br_t (by decide) H)
    · have hp0 := hbp (by omega)
      have em : nI p - 1 = nI (p - 1) := by
        obtain ⟨q, rfl⟩ : ∃ q, p = q + 1 := ⟨p - 1, by omega⟩
        exact nI_pred q
      have ve : vp_in (nI p - 1) 64 := by rw [em]; exact vp_in_nI (by omega) (by omega)
      have ce : (nI p - 1).toNatClampNeg = p - 1 := by rw [em]; exact nI_clamp (by omega)
      refine br_t (by decide) (br_f (nI_nle (by omega) (by omega)) ⟨ve, br_t ?_ H⟩)
      rw [ce]
      by_cases z : (inp (p - 1) &&& (((1 : Int32) <<< (nI b &&& 31)) - 1)) = 0
      · exact z
      · exact absurd ⟨rfl, by omega, z⟩ h
theorem rx_cl0 {post : Int32 → SX → Prop} (h : fw_pad w inp p b) (hb : b ≤ 7) (hbp : 0 < b → 0 < p) (hp : p ≤ 64) (H : post 0 (xic, xoc, nI N, xhf, nI fd, nI ll, xol, xea, fw_w w, nI i, xfo, nI sp, nI p, nI b, nI lim, nI us, iK, iA, iB, xM, xO, xS, FK, FA, FB, FM, inp, lst, out, vs, xR, xL)) : wpX_closeBits post (xic, xoc, nI N, xhf, nI fd, nI ll, xol, xea, fw_w w, nI i, xfo, nI sp, nI p, nI b, nI lim, nI us, iK, iA, iB, xM, xO, xS, FK, FA, FB, FM, inp, lst, out, vs, xR, xL) := by
  obtain ⟨rfl, h0, h1⟩ := h
  have hp0 := hbp h0
  have em : nI p - 1 = nI (p - 1) := by
    obtain ⟨q, rfl⟩ : ∃ q, p = q + 1 := ⟨p - 1, by omega⟩
    exact nI_pred q
  have ve : vp_in (nI p - 1) 64 := by rw [em]; exact vp_in_nI (by omega) (by omega)
  have ce : (nI p - 1).toNatClampNeg = p - 1 := by rw [em]; exact nI_clamp (by omega)
  refine br_t (by decide) (br_f (nI_nle (by omega) (by omega)) ⟨ve, br_f ?_ H⟩)
  rw [ce]
  exact h1
theorem ry_cl1 {post : Int32 → SY → Prop} (h : ¬ fw_pad w inp p b) (hb : b ≤ 7) (hbp : 0 < b → 0 < p) (hp : p ≤ 64) (H : post 0 (yic, nI N, nI fd, nI ll, ymd, ysa, ytk, nI dp, nI p, nI 0, nI sp, nI us, ynx, yra, fw_r w, iK, iA, iB, FK, FA, FB, inp, lst, out, vs, yO, yN, yS, yT)) : wpY_close post (yic, nI N, nI fd, nI ll, ymd, ysa, ytk, nI dp, nI p, nI b, nI sp, nI us, ynx, yra, fw_r w, iK, iA, iB, FK, FA, FB, inp, lst, out, vs, yO, yN, yS, yT) := by
  cases w with
  | true => exact br_t (by decide) H
  | false =>
    by_cases h0 : b = 0
    · subst h0
      exact br_f (by decide) (br_t (by decide) H)
    · have hp0 := hbp (by omega)
      have em : nI p - 1 = nI (p - 1) := by
        obtain ⟨q, rfl⟩ : ∃ q, p = q + 1 := ⟨p - 1, by omega⟩
        exact nI_pred q
      have ve : vp_in (nI p - 1) 64 := by rw [em]; exact vp_in_nI (by omega) (by omega)
      have ce : (nI p - 1).toNatClampNeg = p - 1 := by rw [em]; exact nI_clamp (by omega)
      refine br_f (by decide) (br_f (nI_nle (by omega) (by omega)) ⟨ve, br_t ?_ H⟩)
      rw [ce]
      by_cases z : (inp (p - 1) &&& (((1 : Int32) <<< (nI b &&& 31)) - 1)) = 0
      · exact z
      · exact absurd ⟨rfl, by omega, z⟩ h
theorem ry_cl0 {post : Int32 → SY → Prop} (h : fw_pad w inp p b) (hb : b ≤ 7) (hbp : 0 < b → 0 < p) (hp : p ≤ 64) (H : post 6 (yic, nI N, nI fd, nI ll, ymd, ysa, ytk, nI dp, nI p, nI b, nI sp, nI us, ynx, yra, fw_r w, iK, iA, iB, FK, FA, FB, inp, lst, out, vs, yO, yN, yS, yT)) : wpY_close post (yic, nI N, nI fd, nI ll, ymd, ysa, ytk, nI dp, nI p, nI b, nI sp, nI us, ynx, yra, fw_r w, iK, iA, iB, FK, FA, FB, inp, lst, out, vs, yO, yN, yS, yT) := by
  obtain ⟨rfl, h0, h1⟩ := h
  have hp0 := hbp h0
  have em : nI p - 1 = nI (p - 1) := by
    obtain ⟨q, rfl⟩ : ∃ q, p = q + 1 := ⟨p - 1, by omega⟩
    exact nI_pred q
  have ve : vp_in (nI p - 1) 64 := by rw [em]; exact vp_in_nI (by omega) (by omega)
  have ce : (nI p - 1).toNatClampNeg = p - 1 := by rw [em]; exact nI_clamp (by omega)
  refine br_f (by decide) (br_f (nI_nle (by omega) (by omega)) ⟨ve, br_f ?_ H⟩)
  rw [ce]
  exact h1
/-! before the item: the one side -/
theorem rx_hv1 {post : Int32 → Prop} {c : Nat} (h : c < 3) (hp : post 1) : wpX_hasValue post (xic, xoc, xfc, xhf, xil, xll, xol, xea, xwr, xcu, xfo, xsp, xpo, xbl, xli, xvu, iK, iA, iB, xM, xO, xS, FK, FA, FB, FM, inp, lst, out, vs, xR, xL) (nI c) := by
  have h' : c = 0 ∨ c = 1 ∨ c = 2 := by omega
  rcases h' with rfl | rfl | rfl
  · exact br_t (by decide) hp
  · exact br_f (by decide) (br_t (by decide) hp)
  · exact br_f (by decide) (br_f (by decide) (br_t (by decide) hp))
theorem rx_nl {c m : Nat} (hc : c ≤ 13) (h : c ≠ m) (hm : m ≤ 13) : ¬ nI c = nI m := fun z => h ((nI_eq (by omega) (by omega)).mp z)
theorem rx_hv0 {post : Int32 → Prop} {c : Nat} (hc : c ≤ 13) (h : ¬ c < 3) (hp : post 0) : wpX_hasValue post (xic, xoc, xfc, xhf, xil, xll, xol, xea, xwr, xcu, xfo, xsp, xpo, xbl, xli, xvu, iK, iA, iB, xM, xO, xS, FK, FA, FB, FM, inp, lst, out, vs, xR, xL) (nI c) :=
  br_f (rx_nl (m := 0) hc (by omega) (by omega)) (br_f (rx_nl (m := 1) hc (by omega) (by omega)) (br_f (rx_nl (m := 2) hc (by omega) (by omega)) hp))
theorem rx_cb1 {post : Int32 → Prop} {c : Nat} (h : fw_clo c) (hp : post 1) : wpX_closesBits post (xic, xoc, xfc, xhf, xil, xll, xol, xea, xwr, xcu, xfo, xsp, xpo, xbl, xli, xvu, iK, iA, iB, xM, xO, xS, FK, FA, FB, FM, inp, lst, out, vs, xR, xL) (nI c) := by
  rcases h with rfl | rfl | rfl | rfl | rfl | rfl
  · exact br_t (by decide) hp
  · exact br_f (by decide) (br_t (by decide) hp)
  · exact br_f (by decide) (br_f (by decide) (br_t (by decide) hp))
  · exact br_f (by decide) (br_f (by decide) (br_f (by decide) (br_t (by decide) hp)))
  · exact br_f (by decide) (br_f (by decide) (br_f (by decide) (br_f (by decide) (br_t (by decide) hp))))
  · exact br_f (by decide) (br_f (by decide) (br_f (by decide) (br_f (by decide) (br_f (by decide) (br_t (by decide) hp)))))
theorem rx_cb0 {post : Int32 → Prop} {c : Nat} (hc : c ≤ 13) (h : ¬ fw_clo c) (hp : post 0) : wpX_closesBits post (xic, xoc, xfc, xhf, xil, xll, xol, xea, xwr, xcu, xfo, xsp, xpo, xbl, xli, xvu, iK, iA, iB, xM, xO, xS, FK, FA, FB, FM, inp, lst, out, vs, xR, xL) (nI c) := by
  unfold fw_clo at h
  exact br_f (rx_nl (m := 0) hc (by omega) (by omega)) (br_f (rx_nl (m := 1) hc (by omega) (by omega)) (br_f (rx_nl (m := 3) hc (by omega) (by omega)) (br_f (rx_nl (m := 6) hc (by omega) (by omega)) (br_f (rx_nl (m := 7) hc (by omega) (by omega)) (br_f (rx_nl (m := 8) hc (by omega) (by omega)) hp)))))
theorem rx_82 {post : Int32 → SX → Prop} {c : Nat} (hc : c ≤ 13) (hll : ll ≤ 40) (hs : w = true → c < 3 → us < ll) (H : post 0 (xic, xoc, nI N, xhf, nI fd, nI ll, xol, xea, fw_w w, nI i, xfo, nI sp, nI p, nI b, nI lim, nI us, iK, iA, iB, xM, xO, xS, FK, FA, FB, FM, inp, lst, out, vs, xR, xL)) : wX_prepareItem_82 post (nI c) xic xoc (nI N) xhf (nI fd) (nI ll) xol xea (fw_w w) (nI i) xfo (nI sp) (nI p) (nI b) (nI lim) (nI us) iK iA iB xM xO xS FK FA FB FM inp lst out vs xR xL := by
  cases w with
  | false => exact br_t rfl H
  | true =>
    refine br_f (by decide) ?_
    by_cases hv : c < 3
    · exact rx_hv1 hv (br_f (by decide) (br_t (nI_lt (hs rfl hv) (by omega)) H))
    · exact rx_hv0 hc hv (br_t rfl H)
theorem rx_82s {post : Int32 → SX → Prop} {c : Nat} (hll : ll ≤ 40) (hus : us ≤ 40) (hw : w = true) (hv : c < 3) (hs : ll ≤ us) (H : post 3 (xic, xoc, nI N, xhf, nI fd, nI ll, xol, xea, fw_w w, nI i, xfo, nI sp, nI p, nI b, nI lim, nI us, iK, iA, iB, xM, xO, xS, FK, FA, FB, FM, inp, lst, out, vs, xR, xL)) : wX_prepareItem_82 post (nI c) xic xoc (nI N) xhf (nI fd) (nI ll) xol xea (fw_w w) (nI i) xfo (nI sp) (nI p) (nI b) (nI lim) (nI us) iK iA iB xM xO xS FK FA FB FM inp lst out vs xR xL := by
  subst hw
  exact br_f (by decide) (rx_hv1 hv (br_f (by decide) (br_f (nI_nlt hs (by omega)) H)))
theorem rx_64c {post : Int32 → SX → Prop} {c : Nat} (h : fw_clo c) (hpad : ¬ fw_pad w inp p b) (hb : b ≤ 7) (hbp : 0 < b → 0 < p) (hp : p ≤ 64) (H : wX_prepareItem_82 post (nI c) xic xoc (nI N) xhf (nI fd) (nI ll) xol xea (fw_w w) (nI i) xfo (nI sp) (nI p) (nI 0) (nI lim) (nI us) iK iA iB xM xO xS FK FA FB FM inp lst out vs xR xL) : wX_prepareItem_64 post (nI c) xic xoc (nI N) xhf (nI fd) (nI ll) xol xea (fw_w w) (nI i) xfo (nI sp) (nI p) (nI b) (nI lim) (nI us) iK iA iB xM xO xS FK FA FB FM inp lst out vs xR xL := by
  unfold wX_prepareItem_64
  exact rx_cb1 h (br_f (by decide) (rx_cl1 hpad hb hbp hp (br_f (by decide) H)))
theorem rx_64n {post : Int32 → SX → Prop} {c : Nat} (hc : c ≤ 13) (h : ¬ fw_clo c) (H : wX_prepareItem_82 post (nI c) xic xoc (nI N) xhf (nI fd) (nI ll) xol xea (fw_w w) (nI i) xfo (nI sp) (nI p) (nI b) (nI lim) (nI us) iK iA iB xM xO xS FK FA FB FM inp lst out vs xR xL) : wX_prepareItem_64 post (nI c) xic xoc (nI N) xhf (nI fd) (nI ll) xol xea (fw_w w) (nI i) xfo (nI sp) (nI p) (nI b) (nI lim) (nI us) iK iA iB xM xO xS FK FA FB FM inp lst out vs xR xL := by
  unfold wX_prepareItem_64
  exact rx_cb0 hc h (br_t rfl H)
theorem rx_64p {post : Int32 → SX → Prop} {c : Nat} (h : fw_clo c) (hpad : fw_pad w inp p b) (hb : b ≤ 7) (hbp : 0 < b → 0 < p) (hp : p ≤ 64) (H : post 6 (xic, xoc, nI N, xhf, nI fd, nI ll, xol, xea, fw_w w, nI i, xfo, nI sp, nI p, nI b, nI lim, nI us, iK, iA, iB, xM, xO, xS, FK, FA, FB, FM, inp, lst, out, vs, xR, xL)) : wX_prepareItem_64 post (nI c) xic xoc (nI N) xhf (nI fd) (nI ll) xol xea (fw_w w) (nI i) xfo (nI sp) (nI p) (nI b) (nI lim) (nI us) iK iA iB xM xO xS FK FA FB FM inp lst out vs xR xL := by
  unfold wX_prepareItem_64
  exact rx_cb1 h (br_f (by decide) (rx_cl0 hpad hb hbp hp (br_t rfl H)))
theorem rx_prep {post : Int32 → SX → Prop} {c : Nat} (hc : c ≤ 11) (hsp : sp < 400) (hl : w = false → c < 3 → ll < 40) (H : wX_prepareItem_64 post (nI c) xic xoc (nI N) xhf (nI fd) (nI ll) xol xea (fw_w w) (nI i) xfo (nI (sp + 1)) (nI p) (nI b) (nI lim) (nI us) iK iA iB xM xO xS FK FA FB FM inp lst out vs xR xL) : wpX_prepareItem post (xic, xoc, nI N, xhf, nI fd, nI ll, xol, xea, fw_w w, nI i, xfo, nI sp, nI p, nI b, nI lim, nI us, iK, iA, iB, xM, xO, xS, FK, FA, FB, FM, inp, lst, out, vs, xR, xL) (nI c) := by
  refine br_f (rx_nl (m := 12) (by omega) (by omega) (by omega)) (br_f (rx_nl (m := 13) (by omega) (by omega) (by omega)) (br_t (nI_lt (b := 400) hsp (by decide)) (nm_r (nI_1 sp) ?_)))
  cases w with
  | true => exact br_f (by decide) H
  | false =>
    refine br_t rfl ?_
    by_cases hv : c < 3
    · exact rx_hv1 hv (br_f (by decide) (br_t (nI_lt (b := 40) (hl rfl hv) (by decide)) H))
    · exact rx_hv0 (by omega) hv (br_t rfl H)
theorem rx_m1 {post : Int32 → SX → Prop} {c : Nat} (hc : c ≤ 11) (hsp : ¬ sp < 400) (hs2 : sp < 2 ^ 31) (H : post 8 (xic, xoc, nI N, xhf, nI fd, nI ll, xol, xea, fw_w w, nI i, xfo, nI sp, nI p, nI b, nI lim, nI us, iK, iA, iB, xM, xO, xS, FK, FA, FB, FM, inp, lst, out, vs, xR, xL)) : wpX_prepareItem post (xic, xoc, nI N, xhf, nI fd, nI ll, xol, xea, fw_w w, nI i, xfo, nI sp, nI p, nI b, nI lim, nI us, iK, iA, iB, xM, xO, xS, FK, FA, FB, FM, inp, lst, out, vs, xR, xL) (nI c) :=
  br_f (rx_nl (m := 12) (by omega) (by omega) (by omega)) (br_f (rx_nl (m := 13) (by omega) (by omega) (by omega)) (br_f (nI_nlt (b := 400) (by omega) hs2) H))
theorem rx_m2 {post : Int32 → SX → Prop} {c : Nat} (hsp : sp < 400) (hw : w = false) (hv : c < 3) (hl : ll = 40) (H : post 8 (xic, xoc, nI N, xhf, nI fd, nI ll, xol, xea, fw_w w, nI i, xfo, nI (sp + 1), nI p, nI b, nI lim, nI us, iK, iA, iB, xM, xO, xS, FK, FA, FB, FM, inp, lst, out, vs, xR, xL)) : wpX_prepareItem post (xic, xoc, nI N, xhf, nI fd, nI ll, xol, xea, fw_w w, nI i, xfo, nI sp, nI p, nI b, nI lim, nI us, iK, iA, iB, xM, xO, xS, FK, FA, FB, FM, inp, lst, out, vs, xR, xL) (nI c) := by
  subst hw
  subst hl
  exact br_f (rx_nl (m := 12) (by omega) (by omega) (by omega)) (br_f (rx_nl (m := 13) (by omega) (by omega) (by omega)) (br_t (nI_lt (b := 400) hsp (by decide)) (nm_r (nI_1 sp) (br_t rfl (rx_hv1 hv (br_f (by decide) (br_f (by decide) H)))))))
/-! before the item: the other side -/
theorem ry_70c {post : Int32 → SY → Prop} {c : Nat} (h : fw_clo c) (H : wY_item_102 post (nI i) (nI c) yic (nI N) (nI fd) (nI ll) ymd ysa ytk (nI dp) (nI p) (nI b) (nI (sp + 1)) (nI us) ynx yra (fw_r w) iK iA iB FK FA FB inp lst out vs yO yN yS yT) : wY_item_70 post (nI i) (nI c) yic (nI N) (nI fd) (nI ll) ymd ysa ytk (nI dp) (nI p) (nI b) (nI sp) (nI us) ynx yra (fw_r w) iK iA iB FK FA FB inp lst out vs yO yN yS yT := by
  refine nm_r (nI_1 sp) ?_
  rcases h with rfl | rfl | rfl | rfl | rfl | rfl
  · exact br_t (by decide) H
  · exact br_t (by decide) H
  · exact br_f (by decide) (br_t (by decide) H)
  · exact br_f (by decide) (br_f (by decide) (br_f (by decide) (br_f (by decide) H)))
  · exact br_f (by decide) (br_f (by decide) (br_f (by decide) (br_f (by decide) H)))
  · exact br_f (by decide) (br_f (by decide) (br_f (by decide) (br_f (by decide) H)))
theorem ry_70n {post : Int32 → SY → Prop} {c : Nat} (hc : c ≤ 11) (h : ¬ fw_clo c) (H : wY_item_113 post (nI i) (nI c) yic (nI N) (nI fd) (nI ll) ymd ysa ytk (nI dp) (nI p) (nI b) (nI (sp + 1)) (nI us) ynx yra (fw_r w) iK iA iB FK FA FB inp lst out vs yO yN yS yT) : wY_item_70 post (nI i) (nI c) yic (nI N) (nI fd) (nI ll) ymd ysa ytk (nI dp) (nI p) (nI b) (nI sp) (nI us) ynx yra (fw_r w) iK iA iB FK FA FB inp lst out vs yO yN yS yT := by
  refine nm_r (nI_1 sp) ?_
  have h' : c = 2 ∨ c = 4 ∨ c = 5 ∨ c = 9 ∨ c = 10 ∨ c = 11 := by unfold fw_clo at h; omega
  rcases h' with rfl | rfl | rfl | rfl | rfl | rfl
  · exact br_f (by decide) (br_f (by decide) (br_t (by decide) H))
  · exact br_f (by decide) (br_f (by decide) (br_t (by decide) H))
  · exact br_f (by decide) (br_f (by decide) (br_t (by decide) H))
  · exact br_f (by decide) (br_f (by decide) (br_f (by decide) (br_t (by decide) H)))
  · exact br_f (by decide) (br_f (by decide) (br_f (by decide) (br_t (by decide) H)))
  · exact br_f (by decide) (br_f (by decide) (br_f (by decide) (br_t (by decide) H)))
theorem ry_102 {post : Int32 → SY → Prop} {c : Nat} (hpad : ¬ fw_pad w inp p b) (hb : b ≤ 7) (hbp : 0 < b → 0 < p) (hp : p ≤ 64) (H : wY_item_113 post (nI i) (nI c) yic (nI N) (nI fd) (nI ll) ymd ysa ytk (nI dp) (nI p) (nI 0) (nI sp) (nI us) ynx yra (fw_r w) iK iA iB FK FA FB inp lst out vs yO yN yS yT) : wY_item_102 post (nI i) (nI c) yic (nI N) (nI fd) (nI ll) ymd ysa ytk (nI dp) (nI p) (nI b) (nI sp) (nI us) ynx yra (fw_r w) iK iA iB FK FA FB inp lst out vs yO yN yS yT := by
  unfold wY_item_102
  exact ry_cl1 hpad hb hbp hp (br_t rfl H)
theorem ry_102p {post : Int32 → SY → Prop} {c : Nat} (hpad : fw_pad w inp p b) (hb : b ≤ 7) (hbp : 0 < b → 0 < p) (hp : p ≤ 64) (H : post 6 (yic, nI N, nI fd, nI ll, ymd, ysa, ytk, nI dp, nI p, nI b, nI sp, nI us, ynx, yra, fw_r w, iK, iA, iB, FK, FA, FB, inp, lst, out, vs, yO, yN, yS, yT)) : wY_item_102 post (nI i) (nI c) yic (nI N) (nI fd) (nI ll) ymd ysa ytk (nI dp) (nI p) (nI b) (nI sp) (nI us) ynx yra (fw_r w) iK iA iB FK FA FB inp lst out vs yO yN yS yT := by
  unfold wY_item_102
  exact ry_cl0 hpad hb hbp hp (br_f (by decide) H)
theorem ry_item {post : Int32 → SY → Prop} {c : Nat} (hi : i < 40) (hk : FK i = nI c) (hc : c ≤ 11) (hsp : sp < 400) (hl : w = false → c < 3 → ll < 40) (H : wY_item_70 post (nI i) (nI c) yic (nI N) (nI fd) (nI ll) ymd ysa ytk (nI dp) (nI p) (nI b) (nI sp) (nI us) ynx yra (fw_r w) iK iA iB FK FA FB inp lst out vs yO yN yS yT) : wpY_item post (yic, nI N, nI fd, nI ll, ymd, ysa, ytk, nI dp, nI p, nI b, nI sp, nI us, ynx, yra, fw_r w, iK, iA, iB, FK, FA, FB, inp, lst, out, vs, yO, yN, yS, yT) (nI i) := by
  have ci : (nI i).toNatClampNeg = i := nI_clamp (by omega)
  have n400 : ¬ nI sp = (400 : Int32) := fun z => by
    have := (nI_eq (a := sp) (b := 400) (by omega) (by omega)).mp z
    omega
  refine ⟨vp_in_nI hi (by omega), nm_r (by rw [ci]; exact hk) (br_f (rx_nl (m := 13) (by omega) (by omega) (by omega)) (br_f (rx_nl (m := 12) (by omega) (by omega) (by omega)) (br_f n400 ?_)))⟩
  cases w with
  | true => exact br_t (by decide) H
  | false =>
    refine br_f (by decide) ?_
    by_cases hv : c < 3
    · have n40 : ¬ nI ll = (40 : Int32) := fun z => by
        have q := hl rfl hv
        have := (nI_eq (a := ll) (b := 40) (by omega) (by omega)).mp z
        omega
      exact br_f (nI_ge (b := 3) hv (by decide)) (br_f n40 H)
    · exact br_t (nI_le (a := 3) (by omega) (by omega)) H
theorem ry_m1 {post : Int32 → SY → Prop} {c : Nat} (hi : i < 40) (hk : FK i = nI c) (hc : c ≤ 11) (hsp : sp = 400) (H : post 8 (yic, nI N, nI fd, nI ll, ymd, ysa, ytk, nI dp, nI p, nI b, nI sp, nI us, ynx, yra, fw_r w, iK, iA, iB, FK, FA, FB, inp, lst, out, vs, yO, yN, yS, yT)) : wpY_item post (yic, nI N, nI fd, nI ll, ymd, ysa, ytk, nI dp, nI p, nI b, nI sp, nI us, ynx, yra, fw_r w, iK, iA, iB, FK, FA, FB, inp, lst, out, vs, yO, yN, yS, yT) (nI i) := by
  have ci : (nI i).toNatClampNeg = i := nI_clamp (by omega)
  subst hsp
  exact ⟨vp_in_nI hi (by omega), nm_r (by rw [ci]; exact hk) (br_f (rx_nl (m := 13) (by omega) (by omega) (by omega)) (br_f (rx_nl (m := 12) (by omega) (by omega) (by omega)) (br_t (by decide) H)))⟩
theorem ry_m2 {post : Int32 → SY → Prop} {c : Nat} (hi : i < 40) (hk : FK i = nI c) (hsp : sp < 400) (hw : w = false) (hv : c < 3) (hl : ll = 40) (H : post 8 (yic, nI N, nI fd, nI ll, ymd, ysa, ytk, nI dp, nI p, nI b, nI sp, nI us, ynx, yra, fw_r w, iK, iA, iB, FK, FA, FB, inp, lst, out, vs, yO, yN, yS, yT)) : wpY_item post (yic, nI N, nI fd, nI ll, ymd, ysa, ytk, nI dp, nI p, nI b, nI sp, nI us, ynx, yra, fw_r w, iK, iA, iB, FK, FA, FB, inp, lst, out, vs, yO, yN, yS, yT) (nI i) := by
  have ci : (nI i).toNatClampNeg = i := nI_clamp (by omega)
  have n400 : ¬ nI sp = (400 : Int32) := fun z => by
    have := (nI_eq (a := sp) (b := 400) (by omega) (by omega)).mp z
    omega
  subst hw
  subst hl
  exact ⟨vp_in_nI hi (by omega), nm_r (by rw [ci]; exact hk) (br_f (rx_nl (m := 13) (by omega) (by omega) (by omega)) (br_f (rx_nl (m := 12) (by omega) (by omega) (by omega)) (br_f n400 (br_f (by decide) (br_f (nI_ge (b := 3) hv (by decide)) (br_t (by decide) H))))))⟩
end
end
section
/-! items that change no stack: BYTE, SUM, ALIGN, BOUND, SET, ADD -/
def fr_E (FK xR xL yO yN : Nat → Int32) (N fd lim S i dp : Nat) (w : Bool) : Prop := fw_Wf FK N ∧ N ≤ 40 ∧ i < N ∧ fd ≤ 64 ∧ fw_R FK xR xL yO yN (fw_base w fd) lim S (fw_st FK i) ∧ dp = (fw_st FK i).length ∧ lim ≤ 64
def fw_o (w : Bool) (out : Nat → Int32) (p : Nat) (a : Int32) : Nat → Int32 := if w then upd out p a else out
def fs_sum (a : Int32) (f : Nat → Int32) : Nat → Int32
  | 0 => a
  | j + 1 => fs_sum a f j + f j
section
variable {xic xoc xfc xhf xil xll xol xea xwr xcu xfo xsp xpo xbl xli xvu yic ysz yfd yls ymd ysa ytk ydp yps ybi ysp yus ynx yra yrd : Int32} {iK iA iB xM xO xS FK FA FB FM inp lst out vs xR xL yO yN yS yT : Nat → Int32}
variable {N fd ll i sp p b lim us dp base S : Nat} {w : Bool}
theorem rE_1 {post : Int32 → Prop} {m : Nat} (E : fr_E FK xR xL yO yN N fd lim S i dp w) (h : p + m ≤ lim) (hp : post 1) : wpY_room post (yic, nI N, nI fd, nI ll, ymd, ysa, ytk, nI dp, nI p, nI b, nI sp, nI us, ynx, yra, fw_r w, iK, iA, iB, FK, FA, FB, inp, lst, out, vs, yO, yN, yS, yT) (nI m) := by
  obtain ⟨W, hN, hi, hfd, R, hd, hlim⟩ := E
  exact ry_room1 W hN hi hfd R hd hlim h hp
theorem rE_0 {post : Int32 → Prop} {m : Nat} (E : fr_E FK xR xL yO yN N fd lim S i dp w) (hpl : p ≤ lim) (hm : m < 2 ^ 31) (h : lim < p + m) (hp : post 0) : wpY_room post (yic, nI N, nI fd, nI ll, ymd, ysa, ytk, nI dp, nI p, nI b, nI sp, nI us, ynx, yra, fw_r w, iK, iA, iB, FK, FA, FB, inp, lst, out, vs, yO, yN, yS, yT) (nI m) := by
  obtain ⟨W, hN, hi, hfd, R, hd, hlim⟩ := E
  exact ry_room0 W hN hi hfd R hd hlim hpl hm h hp
theorem rE_i (E : fr_E FK xR xL yO yN N fd lim S i dp w) : i < 40 ∧ lim ≤ 64 ∧ (nI i).toNatClampNeg = i ∧ vp_in (nI i) 40 := by
  obtain ⟨W, hN, hi, hfd, R, hd, hlim⟩ := E
  exact ⟨by omega, hlim, nI_clamp (by omega), vp_in_nI (by omega) (by omega)⟩
theorem rE_v (x : Int32) : ∃ v : Nat, v < 8 ∧ x &&& 7 = nI v ∧ vp_in (nI v) 8 ∧ (nI v).toNatClampNeg = v := by
  obtain ⟨v, hv, ev⟩ := pk_andE x (m := 7) 3 (by decide)
  have hv8 : v < 8 := hv
  exact ⟨v, hv8, ev, vp_in_nI hv8 (by omega), nI_clamp (by omega)⟩
theorem rx_by3 {post : Int32 → SX → Prop} {a : Int32} (h : lim ≤ p) (hp : p ≤ 64) (H : post 3 (xic, xoc, nI N, xhf, nI fd, nI ll, xol, xea, fw_w w, nI i, xfo, nI sp, nI p, nI b, nI lim, nI us, iK, iA, iB, xM, xO, xS, FK, FA, FB, FM, inp, lst, out, vs, xR, xL)) : wpX_doByte post (xic, xoc, nI N, xhf, nI fd, nI ll, xol, xea, fw_w w, nI i, xfo, nI sp, nI p, nI b, nI lim, nI us, iK, iA, iB, xM, xO, xS, FK, FA, FB, FM, inp, lst, out, vs, xR, xL) a := br_f (nI_nlt h (by omega)) H
theorem rx_by5 {post : Int32 → SX → Prop} {a : Int32} (h : p < lim) (hl : lim ≤ 64) (hw : w = false) (hne : ¬ inp p = a) (H : post 5 (xic, xoc, nI N, xhf, nI fd, nI ll, xol, xea, fw_w w, nI i, xfo, nI sp, nI p, nI b, nI lim, nI us, iK, iA, iB, xM, xO, xS, FK, FA, FB, FM, inp, lst, out, vs, xR, xL)) : wpX_doByte post (xic, xoc, nI N, xhf, nI fd, nI ll, xol, xea, fw_w w, nI i, xfo, nI sp, nI p, nI b, nI lim, nI us, iK, iA, iB, xM, xO, xS, FK, FA, FB, FM, inp, lst, out, vs, xR, xL) a := by
  subst hw
  have cp : (nI p).toNatClampNeg = p := nI_clamp (by omega)
  exact br_t (nI_lt h (by omega)) (br_t rfl ⟨vp_in_nI (by omega) (by omega), br_f (by rw [cp]; exact hne) H⟩)
theorem rx_by0 {post : Int32 → SX → Prop} {a : Int32} (h : p < lim) (hl : lim ≤ 64) (he : w = false → inp p = a) (H : post 0 (xic, xoc, nI N, xhf, nI fd, nI ll, xol, xea, fw_w w, nI i, xfo, nI sp, nI (p + 1), nI b, nI lim, nI us, iK, iA, iB, xM, xO, xS, FK, FA, FB, FM, inp, lst, fw_o w out p a, vs, xR, xL)) : wpX_doByte post (xic, xoc, nI N, xhf, nI fd, nI ll, xol, xea, fw_w w, nI i, xfo, nI sp, nI p, nI b, nI lim, nI us, iK, iA, iB, xM, xO, xS, FK, FA, FB, FM, inp, lst, out, vs, xR, xL) a := by
  have cp : (nI p).toNatClampNeg = p := nI_clamp (by omega)
  have vp : vp_in (nI p) 64 := vp_in_nI (by omega) (by omega)
  cases w with
  | false => exact br_t (nI_lt h (by omega)) (br_t rfl ⟨vp, br_t (by rw [cp]; exact he rfl) (nm_r (nI_1 p) H)⟩)
  | true => exact br_t (nI_lt h (by omega)) (br_f (by decide) ⟨vp, nm_r (by rw [cp]; rfl) (nm_r (nI_1 p) H)⟩)
theorem ry_ex5 {post : Int32 → SY → Prop} {a e : Int32} (hp : p < 64) (hw : w = false) (hne : ¬ inp p = a) (H : post e (yic, nI N, nI fd, nI ll, ymd, ysa, ytk, nI dp, nI p, nI b, nI sp, nI us, ynx, yra, fw_r w, iK, iA, iB, FK, FA, FB, inp, lst, out, vs, yO, yN, yS, yT)) : wpY_exact post (yic, nI N, nI fd, nI ll, ymd, ysa, ytk, nI dp, nI p, nI b, nI sp, nI us, ynx, yra, fw_r w, iK, iA, iB, FK, FA, FB, inp, lst, out, vs, yO, yN, yS, yT) a e := by
  subst hw
  have cp : (nI p).toNatClampNeg = p := nI_clamp (by omega)
  exact br_f (by decide) ⟨vp_in_nI hp (by omega), br_f (by rw [cp]; exact hne) H⟩
theorem ry_ex0 {post : Int32 → SY → Prop} {a e : Int32} (hp : p < 64) (he : w = false → inp p = a) (H : post 0 (yic, nI N, nI fd, nI ll, ymd, ysa, ytk, nI dp, nI (p + 1), nI b, nI sp, nI us, ynx, yra, fw_r w, iK, iA, iB, FK, FA, FB, inp, lst, fw_o w out p a, vs, yO, yN, yS, yT)) : wpY_exact post (yic, nI N, nI fd, nI ll, ymd, ysa, ytk, nI dp, nI p, nI b, nI sp, nI us, ynx, yra, fw_r w, iK, iA, iB, FK, FA, FB, inp, lst, out, vs, yO, yN, yS, yT) a e := by
  have cp : (nI p).toNatClampNeg = p := nI_clamp (by omega)
  have vp : vp_in (nI p) 64 := vp_in_nI (by omega) (by omega)
  cases w with
  | false => exact br_f (by decide) ⟨vp, br_t (by rw [cp]; exact he rfl) (br_f (by decide) (nm_r (nI_1 p) H))⟩
  | true => exact br_t (by decide) (br_t (by decide) ⟨vp, nm_r (by rw [cp]; rfl) (nm_r (nI_1 p) H)⟩)
theorem rf_3 (E : fr_E FK xR xL yO yN N fd lim S i dp w) (hp : p ≤ lim) (hb : b ≤ 7) (hbp : 0 < b → 0 < p) (hus : us ≤ ll) (hll : ll ≤ 40) : (∃ (r q : Int32), r ≠ 0 ∧ (w = true → q = nI p) ∧ (∀ post : Int32 → SX → Prop, post r (xic, xoc, nI N, xhf, nI fd, nI ll, xol, xea, fw_w w, nI i, xfo, nI sp, nI p, nI b, nI lim, nI us, iK, iA, iB, xM, xO, xS, FK, FA, FB, FM, inp, lst, out, vs, xR, xL) → wpX_doItem post (xic, xoc, nI N, xhf, nI fd, nI ll, xol, xea, fw_w w, nI i, xfo, nI sp, nI p, nI b, nI lim, nI us, iK, iA, iB, xM, xO, xS, FK, FA, FB, FM, inp, lst, out, vs, xR, xL) (nI 3) (FA i) (FB i)) ∧ (∀ post : Int32 → SY → Prop, post r (yic, nI N, nI fd, nI ll, ymd, ysa, ytk, nI dp, q, nI b, nI sp, nI us, ynx, yra, fw_r w, iK, iA, iB, FK, FA, FB, inp, lst, out, vs, yO, yN, yS, yT) → wY_item_113 post (nI i) (nI 3) yic (nI N) (nI fd) (nI ll) ymd ysa ytk (nI dp) (nI p) (nI b) (nI sp) (nI us) ynx yra (fw_r w) iK iA iB FK FA FB inp lst out vs yO yN yS yT)) ∨ (∃ (p' b' us' ll' : Nat) (lst' out' vs' : Nat → Int32), p' ≤ lim ∧ b' ≤ 7 ∧ (0 < b' → 0 < p') ∧ us' ≤ ll' ∧ ll' ≤ 40 ∧ (∀ post : Int32 → SX → Prop, post 0 (xic, xoc, nI N, xhf, nI fd, nI ll', xol, xea, fw_w w, nI i, xfo, nI sp, nI p', nI b', nI lim, nI us', iK, iA, iB, xM, xO, xS, FK, FA, FB, FM, inp, lst', out', vs', xR, xL) → wpX_doItem post (xic, xoc, nI N, xhf, nI fd, nI ll, xol, xea, fw_w w, nI i, xfo, nI sp, nI p, nI b, nI lim, nI us, iK, iA, iB, xM, xO, xS, FK, FA, FB, FM, inp, lst, out, vs, xR, xL) (nI 3) (FA i) (FB i)) ∧ (∀ post : Int32 → SY → Prop, post 0 (yic, nI N, nI fd, nI ll', ymd, ysa, ytk, nI dp, nI p', nI b', nI sp, nI us', ynx, yra, fw_r w, iK, iA, iB, FK, FA, FB, inp, lst', out', vs', yO, yN, yS, yT) → wY_item_113 post (nI i) (nI 3) yic (nI N) (nI fd) (nI ll) ymd ysa ytk (nI dp) (nI p) (nI b) (nI sp) (nI us) ynx yra (fw_r w) iK iA iB FK FA FB inp lst out vs yO yN yS yT)) := by
  obtain ⟨hi, hlim, ci, vi⟩ := rE_i E
  obtain ⟨v, hv, ev, vv, cv⟩ := rE_v (FB i)
  have ev' : FB (nI i).toNatClampNeg &&& 7 = nI v := by rw [ci]; exact ev
  by_cases h : p < lim
  · by_cases he : w = false → inp p = FA i
    · refine Or.inr ⟨p + 1, b, us, ll, lst, fw_o w out p (FA i), vs, h, hb, fun _ => by omega, hus, hll, fun post H => nm_r ev (br_f (by decide) (br_f (by decide) (br_f (by decide) (br_f (by decide) (br_f (by decide) (br_t (by decide) (rx_by0 h hlim he H))))))), fun post H => ⟨vi, nm_r ev' (br_t (by decide) (br_f (by decide) (br_t (by decide) ⟨vi, ?_⟩)))⟩⟩
      rw [ci]
      exact br_f (by decide) (br_f (by decide) (br_t (by decide) (rE_1 (m := 1) E h (br_f (by decide) (ry_ex0 (by omega) he H)))))
    · have hw : w = false := by
        cases w with
        | false => rfl
        | true => exact absurd (fun z => absurd z (by decide)) he
      have hne : ¬ inp p = FA i := fun z => he (fun _ => z)
      refine Or.inl ⟨5, nI p, by decide, fun _ => rfl, fun post H => nm_r ev (br_f (by decide) (br_f (by decide) (br_f (by decide) (br_f (by decide) (br_f (by decide) (br_t (by decide) (rx_by5 h hlim hw hne H))))))), fun post H => ⟨vi, nm_r ev' (br_t (by decide) (br_f (by decide) (br_t (by decide) ⟨vi, ?_⟩)))⟩⟩
      rw [ci]
      exact br_f (by decide) (br_f (by decide) (br_t (by decide) (rE_1 (m := 1) E h (br_f (by decide) (ry_ex5 (by omega) hw hne H)))))
  · refine Or.inl ⟨3, nI p, by decide, fun _ => rfl, fun post H => nm_r ev (br_f (by decide) (br_f (by decide) (br_f (by decide) (br_f (by decide) (br_f (by decide) (br_t (by decide) (rx_by3 (by omega) (by omega) H))))))), fun post H => ⟨vi, nm_r ev' (br_t (by decide) (br_f (by decide) (br_t (by decide) ⟨vi, ?_⟩)))⟩⟩
    rw [ci]
    exact br_f (by decide) (br_f (by decide) (br_t (by decide) (rE_0 (m := 1) E hp (by omega) (by omega) (br_t rfl H))))
theorem rx_sumI {post : Int32 → Prop} {a : Int32} (hp : p ≤ 64) (H : post (fs_sum a inp p &&& 255)) : ∀ d j : Nat, j + d = p → wX_sumUp__input_5 post xic xoc (nI N) xhf (nI fd) (nI ll) xol xea (fw_w w) (nI i) xfo (nI sp) (nI p) (nI b) (nI lim) (nI us) iK iA iB xM xO xS FK FA FB FM inp lst out vs xR xL (d + 1) (fs_sum a inp j) (nI j) := by
  intro d
  induction d with
  | zero =>
    intro j hj
    have e : j = p := by omega
    rw [e]
    exact br_t (nI_le (by omega) (by omega)) H
  | succ d ih =>
    intro j hj
    have cj : (nI j).toNatClampNeg = j := nI_clamp (by omega)
    exact br_f (nI_ge (by omega) (by omega)) ⟨vp_in_nI (by omega) (by omega), nm_r (e' := fs_sum a inp (j + 1)) (by rw [cj]; rfl) (nm_r (nI_1 j) (ih (j + 1) (by omega)))⟩
theorem rx_sumO {post : Int32 → Prop} {a : Int32} (hp : p ≤ 64) (H : post (fs_sum a out p &&& 255)) : ∀ d j : Nat, j + d = p → wX_sumUp__output_5 post xic xoc (nI N) xhf (nI fd) (nI ll) xol xea (fw_w w) (nI i) xfo (nI sp) (nI p) (nI b) (nI lim) (nI us) iK iA iB xM xO xS FK FA FB FM inp lst out vs xR xL (d + 1) (fs_sum a out j) (nI j) := by
  intro d
  induction d with
  | zero =>
    intro j hj
    have e : j = p := by omega
    rw [e]
    exact br_t (nI_le (by omega) (by omega)) H
  | succ d ih =>
    intro j hj
    have cj : (nI j).toNatClampNeg = j := nI_clamp (by omega)
    exact br_f (nI_ge (by omega) (by omega)) ⟨vp_in_nI (by omega) (by omega), nm_r (e' := fs_sum a out (j + 1)) (by rw [cj]; rfl) (nm_r (nI_1 j) (ih (j + 1) (by omega)))⟩
def fs_f (w : Bool) (inp out : Nat → Int32) : Nat → Int32 := if w then out else inp
theorem ry_sum {post : Int32 → SY → Prop} {a : Int32} (hp : p ≤ 64) (H : wpY_exact (fun r u => match u with | (yic, ysz, yfd, yls, ymd, ysa, ytk, ydp, yps, ybi, ysp, yus, ynx, yra, yrd, yK, yA, yB, zK, zA, zB, yin, ylst, yout, yvs, yO, yN, yS, yT) => post r (yic, ysz, yfd, yls, ymd, ysa, ytk, ydp, yps, ybi, ysp, yus, ynx, yra, yrd, yK, yA, yB, zK, zA, zB, yin, ylst, yout, yvs, yO, yN, yS, yT)) (yic, nI N, nI fd, nI ll, ymd, ysa, ytk, nI dp, nI p, nI b, nI sp, nI us, ynx, yra, fw_r w, iK, iA, iB, FK, FA, FB, inp, lst, out, vs, yO, yN, yS, yT) (fs_sum a (fs_f w inp out) p &&& 255) 5) : ∀ d j : Nat, j + d = p → wY_plain_83 post yic (nI N) (nI fd) (nI ll) ymd ysa ytk (nI dp) (nI p) (nI b) (nI sp) (nI us) ynx yra (fw_r w) iK iA iB FK FA FB inp lst out vs yO yN yS yT (d + 1) (fs_sum a (fs_f w inp out) j) (nI j) := by
  intro d
  induction d with
  | zero =>
    intro j hj
    have e : j = p := by omega
    rw [e]
    exact br_t (nI_le (by omega) (by omega)) H
  | succ d ih =>
    intro j hj
    have cj : (nI j).toNatClampNeg = j := nI_clamp (by omega)
    have vj : vp_in (nI j) 64 := vp_in_nI (by omega) (by omega)
    refine br_f (nI_ge (by omega) (by omega)) ?_
    have K := nm_r (P := fun x => ∀ y, y = nI j + 1 → wY_plain_83 post yic (nI N) (nI fd) (nI ll) ymd ysa ytk (nI dp) (nI p) (nI b) (nI sp) (nI us) ynx yra (fw_r w) iK iA iB FK FA FB inp lst out vs yO yN yS yT (d + 1) x y) (e := fs_sum a (fs_f w inp out) j + fs_f w inp out j) (e' := fs_sum a (fs_f w inp out) (j + 1)) rfl (nm_r (nI_1 j) (ih (j + 1) (by omega)))
    cases w with
    | false => refine br_f (by decide) ⟨vj, ?_⟩; rw [cj]; exact K
    | true => refine br_t (by decide) ⟨vj, ?_⟩; rw [cj]; exact K
theorem rf_7 (E : fr_E FK xR xL yO yN N fd lim S i dp w) (hp : p ≤ lim) (hb : b ≤ 7) (hbp : 0 < b → 0 < p) (hus : us ≤ ll) (hll : ll ≤ 40) : (∃ (r q : Int32), r ≠ 0 ∧ (w = true → q = nI p) ∧ (∀ post : Int32 → SX → Prop, post r (xic, xoc, nI N, xhf, nI fd, nI ll, xol, xea, fw_w w, nI i, xfo, nI sp, nI p, nI b, nI lim, nI us, iK, iA, iB, xM, xO, xS, FK, FA, FB, FM, inp, lst, out, vs, xR, xL) → wpX_doItem post (xic, xoc, nI N, xhf, nI fd, nI ll, xol, xea, fw_w w, nI i, xfo, nI sp, nI p, nI b, nI lim, nI us, iK, iA, iB, xM, xO, xS, FK, FA, FB, FM, inp, lst, out, vs, xR, xL) (nI 7) (FA i) (FB i)) ∧ (∀ post : Int32 → SY → Prop, post r (yic, nI N, nI fd, nI ll, ymd, ysa, ytk, nI dp, q, nI b, nI sp, nI us, ynx, yra, fw_r w, iK, iA, iB, FK, FA, FB, inp, lst, out, vs, yO, yN, yS, yT) → wY_item_113 post (nI i) (nI 7) yic (nI N) (nI fd) (nI ll) ymd ysa ytk (nI dp) (nI p) (nI b) (nI sp) (nI us) ynx yra (fw_r w) iK iA iB FK FA FB inp lst out vs yO yN yS yT)) ∨ (∃ (p' b' us' ll' : Nat) (lst' out' vs' : Nat → Int32), p' ≤ lim ∧ b' ≤ 7 ∧ (0 < b' → 0 < p') ∧ us' ≤ ll' ∧ ll' ≤ 40 ∧ (∀ post : Int32 → SX → Prop, post 0 (xic, xoc, nI N, xhf, nI fd, nI ll', xol, xea, fw_w w, nI i, xfo, nI sp, nI p', nI b', nI lim, nI us', iK, iA, iB, xM, xO, xS, FK, FA, FB, FM, inp, lst', out', vs', xR, xL) → wpX_doItem post (xic, xoc, nI N, xhf, nI fd, nI ll, xol, xea, fw_w w, nI i, xfo, nI sp, nI p, nI b, nI lim, nI us, iK, iA, iB, xM, xO, xS, FK, FA, FB, FM, inp, lst, out, vs, xR, xL) (nI 7) (FA i) (FB i)) ∧ (∀ post : Int32 → SY → Prop, post 0 (yic, nI N, nI fd, nI ll', ymd, ysa, ytk, nI dp, nI p', nI b', nI sp, nI us', ynx, yra, fw_r w, iK, iA, iB, FK, FA, FB, inp, lst', out', vs', yO, yN, yS, yT) → wY_item_113 post (nI i) (nI 7) yic (nI N) (nI fd) (nI ll) ymd ysa ytk (nI dp) (nI p) (nI b) (nI sp) (nI us) ynx yra (fw_r w) iK iA iB FK FA FB inp lst out vs yO yN yS yT)) := by
  obtain ⟨hi, hlim, ci, vi⟩ := rE_i E
  obtain ⟨v, hv, ev, vv, cv⟩ := rE_v (FB i)
  have ev' : FB (nI i).toNatClampNeg &&& 7 = nI v := by rw [ci]; exact ev
  have HX : ∀ post : Int32 → SX → Prop, wpX_doByte (fun r u => match u with | (xic, xoc, xfc, xhf, xil, xll, xol, xea, xwr, xcu, xfo, xsp, xpo, xbl, xli, xvu, iK, iA, iB, xM, xO, xS, FK, FA, FB, FM, inp, lst, out, vs, xR, xL) => post r (xic, xoc, xfc, xhf, xil, xll, xol, xea, xwr, xcu, xfo, xsp, xpo, xbl, xli, xvu, iK, iA, iB, xM, xO, xS, FK, FA, FB, FM, inp, lst, out, vs, xR, xL)) (xic, xoc, nI N, xhf, nI fd, nI ll, xol, xea, fw_w w, nI i, xfo, nI sp, nI p, nI b, nI lim, nI us, iK, iA, iB, xM, xO, xS, FK, FA, FB, FM, inp, lst, out, vs, xR, xL) (fs_sum (FA i) (fs_f w inp out) p &&& 255) → wpX_doItem post (xic, xoc, nI N, xhf, nI fd, nI ll, xol, xea, fw_w w, nI i, xfo, nI sp, nI p, nI b, nI lim, nI us, iK, iA, iB, xM, xO, xS, FK, FA, FB, FM, inp, lst, out, vs, xR, xL) (nI 7) (FA i) (FB i) := by
    intro post H
    cases w with
    | false => exact nm_r ev (br_f (by decide) (br_f (by decide) (br_f (by decide) (br_f (by decide) (br_f (by decide) (br_f (by decide) (br_f (by decide) (br_f (by decide) (br_f (by decide) (br_t (by decide) (br_t rfl ⟨p + 1, rx_sumI (by omega) H p 0 (by omega)⟩)))))))))))
    | true => exact nm_r ev (br_f (by decide) (br_f (by decide) (br_f (by decide) (br_f (by decide) (br_f (by decide) (br_f (by decide) (br_f (by decide) (br_f (by decide) (br_f (by decide) (br_t (by decide) (br_f (by decide) ⟨p + 1, rx_sumO (by omega) H p 0 (by omega)⟩)))))))))))
  by_cases h : p < lim
  · have HY : ∀ post : Int32 → SY → Prop, wpY_exact (fun r u => match u with | (yic, ysz, yfd, yls, ymd, ysa, ytk, ydp, yps, ybi, ysp, yus, ynx, yra, yrd, yK, yA, yB, zK, zA, zB, yin, ylst, yout, yvs, yO, yN, yS, yT) => post r (yic, ysz, yfd, yls, ymd, ysa, ytk, ydp, yps, ybi, ysp, yus, ynx, yra, yrd, yK, yA, yB, zK, zA, zB, yin, ylst, yout, yvs, yO, yN, yS, yT)) (yic, nI N, nI fd, nI ll, ymd, ysa, ytk, nI dp, nI p, nI b, nI sp, nI us, ynx, yra, fw_r w, iK, iA, iB, FK, FA, FB, inp, lst, out, vs, yO, yN, yS, yT) (fs_sum (FA i) (fs_f w inp out) p &&& 255) 5 → wY_item_113 post (nI i) (nI 7) yic (nI N) (nI fd) (nI ll) ymd ysa ytk (nI dp) (nI p) (nI b) (nI sp) (nI us) ynx yra (fw_r w) iK iA iB FK FA FB inp lst out vs yO yN yS yT := by
      intro post H
      refine ⟨vi, nm_r ev' (br_t (by decide) (br_t (by decide) ⟨vi, ?_⟩))⟩
      rw [ci]
      exact br_f (by decide) (br_f (by decide) (br_f (by decide) (br_f (by decide) (br_f (by decide) (br_f (by decide) (br_t (by decide) (rE_1 (m := 1) E h (br_f (by decide) ⟨p + 1, ry_sum (by omega) H p 0 (by omega)⟩))))))))
    by_cases he : w = false → inp p = fs_sum (FA i) (fs_f w inp out) p &&& 255
    · exact Or.inr ⟨p + 1, b, us, ll, lst, fw_o w out p (fs_sum (FA i) (fs_f w inp out) p &&& 255), vs, h, hb, fun _ => by omega, hus, hll, fun post H => HX _ (rx_by0 h hlim he H), fun post H => HY _ (ry_ex0 (by omega) he H)⟩
    · have hw : w = false := by
        cases w with
        | false => rfl
        | true => exact absurd (fun z => absurd z (by decide)) he
      have hne : ¬ inp p = fs_sum (FA i) (fs_f w inp out) p &&& 255 := fun z => he (fun _ => z)
      exact Or.inl ⟨5, nI p, by decide, fun _ => rfl, fun post H => HX _ (rx_by5 h hlim hw hne H), fun post H => HY _ (ry_ex5 (by omega) hw hne H)⟩
  · refine Or.inl ⟨3, nI p, by decide, fun _ => rfl, fun post H => HX _ (rx_by3 (by omega) (by omega) H), fun post H => ⟨vi, nm_r ev' (br_t (by decide) (br_t (by decide) ⟨vi, ?_⟩))⟩⟩
    rw [ci]
    exact br_f (by decide) (br_f (by decide) (br_f (by decide) (br_f (by decide) (br_f (by decide) (br_f (by decide) (br_t (by decide) (rE_0 (m := 1) E hp (by omega) (by omega) (br_t rfl H))))))))
theorem rf_9 (E : fr_E FK xR xL yO yN N fd lim S i dp w) (hp : p ≤ lim) (hb : b ≤ 7) (hbp : 0 < b → 0 < p) (hus : us ≤ ll) (hll : ll ≤ 40) : (∃ (r q : Int32), r ≠ 0 ∧ (w = true → q = nI p) ∧ (∀ post : Int32 → SX → Prop, post r (xic, xoc, nI N, xhf, nI fd, nI ll, xol, xea, fw_w w, nI i, xfo, nI sp, nI p, nI b, nI lim, nI us, iK, iA, iB, xM, xO, xS, FK, FA, FB, FM, inp, lst, out, vs, xR, xL) → wpX_doItem post (xic, xoc, nI N, xhf, nI fd, nI ll, xol, xea, fw_w w, nI i, xfo, nI sp, nI p, nI b, nI lim, nI us, iK, iA, iB, xM, xO, xS, FK, FA, FB, FM, inp, lst, out, vs, xR, xL) (nI 9) (FA i) (FB i)) ∧ (∀ post : Int32 → SY → Prop, post r (yic, nI N, nI fd, nI ll, ymd, ysa, ytk, nI dp, q, nI b, nI sp, nI us, ynx, yra, fw_r w, iK, iA, iB, FK, FA, FB, inp, lst, out, vs, yO, yN, yS, yT) → wY_item_113 post (nI i) (nI 9) yic (nI N) (nI fd) (nI ll) ymd ysa ytk (nI dp) (nI p) (nI b) (nI sp) (nI us) ynx yra (fw_r w) iK iA iB FK FA FB inp lst out vs yO yN yS yT)) ∨ (∃ (p' b' us' ll' : Nat) (lst' out' vs' : Nat → Int32), p' ≤ lim ∧ b' ≤ 7 ∧ (0 < b' → 0 < p') ∧ us' ≤ ll' ∧ ll' ≤ 40 ∧ (∀ post : Int32 → SX → Prop, post 0 (xic, xoc, nI N, xhf, nI fd, nI ll', xol, xea, fw_w w, nI i, xfo, nI sp, nI p', nI b', nI lim, nI us', iK, iA, iB, xM, xO, xS, FK, FA, FB, FM, inp, lst', out', vs', xR, xL) → wpX_doItem post (xic, xoc, nI N, xhf, nI fd, nI ll, xol, xea, fw_w w, nI i, xfo, nI sp, nI p, nI b, nI lim, nI us, iK, iA, iB, xM, xO, xS, FK, FA, FB, FM, inp, lst, out, vs, xR, xL) (nI 9) (FA i) (FB i)) ∧ (∀ post : Int32 → SY → Prop, post 0 (yic, nI N, nI fd, nI ll', ymd, ysa, ytk, nI dp, nI p', nI b', nI sp, nI us', ynx, yra, fw_r w, iK, iA, iB, FK, FA, FB, inp, lst', out', vs', yO, yN, yS, yT) → wY_item_113 post (nI i) (nI 9) yic (nI N) (nI fd) (nI ll) ymd ysa ytk (nI dp) (nI p) (nI b) (nI sp) (nI us) ynx yra (fw_r w) iK iA iB FK FA FB inp lst out vs yO yN yS yT)) := by
  obtain ⟨hi, hlim, ci, vi⟩ := rE_i E
  obtain ⟨v, hv, ev, vv, cv⟩ := rE_v (FB i)
  have ev' : FB (nI i).toNatClampNeg &&& 7 = nI v := by rw [ci]; exact ev
  have HY : ∀ post : Int32 → SY → Prop, ((fp_in (vs v) 0 (FA i) = 0 → post 4 (yic, nI N, nI fd, nI ll, ymd, ysa, ytk, nI dp, nI p, nI b, nI sp, nI us, ynx, yra, fw_r w, iK, iA, iB, FK, FA, FB, inp, lst, out, vs, yO, yN, yS, yT)) ∧ (¬ fp_in (vs v) 0 (FA i) = 0 → post 0 (yic, nI N, nI fd, nI ll, ymd, ysa, ytk, nI dp, nI p, nI b, nI sp, nI us, ynx, yra, fw_r w, iK, iA, iB, FK, FA, FB, inp, lst, out, vs, yO, yN, yS, yT))) → wY_item_113 post (nI i) (nI 9) yic (nI N) (nI fd) (nI ll) ymd ysa ytk (nI dp) (nI p) (nI b) (nI sp) (nI us) ynx yra (fw_r w) iK iA iB FK FA FB inp lst out vs yO yN yS yT := by
    intro post H
    refine ⟨vi, nm_r ev' (br_t (by decide) (br_t (by decide) ⟨vi, ?_⟩))⟩
    rw [ci]
    refine br_f (by decide) (br_f (by decide) (br_f (by decide) (br_f (by decide) (br_f (by decide) (br_f (by decide) (br_f (by decide) (br_f (by decide) (br_t (by decide) ⟨vv, ?_⟩))))))))
    rw [cv]
    exact fp_w H
  have HX : ∀ post : Int32 → SX → Prop, ((vs v < 0 → post 4 (xic, xoc, nI N, xhf, nI fd, nI ll, xol, xea, fw_w w, nI i, xfo, nI sp, nI p, nI b, nI lim, nI us, iK, iA, iB, xM, xO, xS, FK, FA, FB, FM, inp, lst, out, vs, xR, xL)) ∧ (¬ vs v < 0 → ((FA i < vs v → post 4 (xic, xoc, nI N, xhf, nI fd, nI ll, xol, xea, fw_w w, nI i, xfo, nI sp, nI p, nI b, nI lim, nI us, iK, iA, iB, xM, xO, xS, FK, FA, FB, FM, inp, lst, out, vs, xR, xL)) ∧ (¬ FA i < vs v → post 0 (xic, xoc, nI N, xhf, nI fd, nI ll, xol, xea, fw_w w, nI i, xfo, nI sp, nI p, nI b, nI lim, nI us, iK, iA, iB, xM, xO, xS, FK, FA, FB, FM, inp, lst, out, vs, xR, xL))))) → wpX_doItem post (xic, xoc, nI N, xhf, nI fd, nI ll, xol, xea, fw_w w, nI i, xfo, nI sp, nI p, nI b, nI lim, nI us, iK, iA, iB, xM, xO, xS, FK, FA, FB, FM, inp, lst, out, vs, xR, xL) (nI 9) (FA i) (FB i) := by
    intro post H
    refine nm_r ev (br_f (by decide) (br_f (by decide) (br_f (by decide) (br_f (by decide) (br_f (by decide) (br_f (by decide) (br_f (by decide) (br_f (by decide) (br_f (by decide) (br_f (by decide) (br_f (by decide) (br_t (by decide) (⟨vv, ?_⟩)))))))))))))
    rw [cv]
    exact ⟨H.1, fun z => ⟨vv, H.2 z⟩⟩
  by_cases h1 : vs v < 0
  · have e : fp_in (vs v) 0 (FA i) = 0 := by unfold fp_in; rw [if_pos h1]
    exact Or.inl ⟨4, nI p, by decide, fun _ => rfl, fun post H => HX _ (br_t h1 H), fun post H => HY _ (br_t e H)⟩
  · by_cases h2 : FA i < vs v
    · have e : fp_in (vs v) 0 (FA i) = 0 := by unfold fp_in; rw [if_neg h1, if_pos h2]
      exact Or.inl ⟨4, nI p, by decide, fun _ => rfl, fun post H => HX _ (br_f h1 (br_t h2 H)), fun post H => HY _ (br_t e H)⟩
    · have e : ¬ fp_in (vs v) 0 (FA i) = 0 := by unfold fp_in; rw [if_neg h1, if_neg h2]; decide
      exact Or.inr ⟨p, b, us, ll, lst, out, vs, hp, hb, hbp, hus, hll, fun post H => HX _ (br_f h1 (br_f h2 H)), fun post H => HY _ (br_f e H)⟩
theorem rf_10 (E : fr_E FK xR xL yO yN N fd lim S i dp w) (hp : p ≤ lim) (hb : b ≤ 7) (hbp : 0 < b → 0 < p) (hus : us ≤ ll) (hll : ll ≤ 40) : (∃ (r q : Int32), r ≠ 0 ∧ (w = true → q = nI p) ∧ (∀ post : Int32 → SX → Prop, post r (xic, xoc, nI N, xhf, nI fd, nI ll, xol, xea, fw_w w, nI i, xfo, nI sp, nI p, nI b, nI lim, nI us, iK, iA, iB, xM, xO, xS, FK, FA, FB, FM, inp, lst, out, vs, xR, xL) → wpX_doItem post (xic, xoc, nI N, xhf, nI fd, nI ll, xol, xea, fw_w w, nI i, xfo, nI sp, nI p, nI b, nI lim, nI us, iK, iA, iB, xM, xO, xS, FK, FA, FB, FM, inp, lst, out, vs, xR, xL) (nI 10) (FA i) (FB i)) ∧ (∀ post : Int32 → SY → Prop, post r (yic, nI N, nI fd, nI ll, ymd, ysa, ytk, nI dp, q, nI b, nI sp, nI us, ynx, yra, fw_r w, iK, iA, iB, FK, FA, FB, inp, lst, out, vs, yO, yN, yS, yT) → wY_item_113 post (nI i) (nI 10) yic (nI N) (nI fd) (nI ll) ymd ysa ytk (nI dp) (nI p) (nI b) (nI sp) (nI us) ynx yra (fw_r w) iK iA iB FK FA FB inp lst out vs yO yN yS yT)) ∨ (∃ (p' b' us' ll' : Nat) (lst' out' vs' : Nat → Int32), p' ≤ lim ∧ b' ≤ 7 ∧ (0 < b' → 0 < p') ∧ us' ≤ ll' ∧ ll' ≤ 40 ∧ (∀ post : Int32 → SX → Prop, post 0 (xic, xoc, nI N, xhf, nI fd, nI ll', xol, xea, fw_w w, nI i, xfo, nI sp, nI p', nI b', nI lim, nI us', iK, iA, iB, xM, xO, xS, FK, FA, FB, FM, inp, lst', out', vs', xR, xL) → wpX_doItem post (xic, xoc, nI N, xhf, nI fd, nI ll, xol, xea, fw_w w, nI i, xfo, nI sp, nI p, nI b, nI lim, nI us, iK, iA, iB, xM, xO, xS, FK, FA, FB, FM, inp, lst, out, vs, xR, xL) (nI 10) (FA i) (FB i)) ∧ (∀ post : Int32 → SY → Prop, post 0 (yic, nI N, nI fd, nI ll', ymd, ysa, ytk, nI dp, nI p', nI b', nI sp, nI us', ynx, yra, fw_r w, iK, iA, iB, FK, FA, FB, inp, lst', out', vs', yO, yN, yS, yT) → wY_item_113 post (nI i) (nI 10) yic (nI N) (nI fd) (nI ll) ymd ysa ytk (nI dp) (nI p) (nI b) (nI sp) (nI us) ynx yra (fw_r w) iK iA iB FK FA FB inp lst out vs yO yN yS yT)) := by
  obtain ⟨hi, hlim, ci, vi⟩ := rE_i E
  obtain ⟨v, hv, ev, vv, cv⟩ := rE_v (FB i)
  have ev' : FB (nI i).toNatClampNeg &&& 7 = nI v := by rw [ci]; exact ev
  refine Or.inr ⟨p, b, us, ll, lst, out, upd vs v (FA i), hp, hb, hbp, hus, hll, fun post H => nm_r ev (br_f (by decide) (br_f (by decide) (br_f (by decide) (br_f (by decide) (br_f (by decide) (br_f (by decide) (br_f (by decide) (br_f (by decide) (br_f (by decide) (br_f (by decide) (br_f (by decide) (br_f (by decide) (br_t (by decide) (⟨vv, nm_r (by rw [cv]) H⟩)))))))))))))), fun post H => ⟨vi, nm_r ev' (br_t (by decide) (br_t (by decide) ⟨vi, ?_⟩))⟩⟩
  rw [ci]
  exact br_f (by decide) (br_f (by decide) (br_f (by decide) (br_f (by decide) (br_f (by decide) (br_f (by decide) (br_f (by decide) (br_f (by decide) (br_f (by decide) (br_t (by decide) ⟨vv, nm_r (by rw [cv]) H⟩)))))))))
theorem rf_11 (E : fr_E FK xR xL yO yN N fd lim S i dp w) (hp : p ≤ lim) (hb : b ≤ 7) (hbp : 0 < b → 0 < p) (hus : us ≤ ll) (hll : ll ≤ 40) : (∃ (r q : Int32), r ≠ 0 ∧ (w = true → q = nI p) ∧ (∀ post : Int32 → SX → Prop, post r (xic, xoc, nI N, xhf, nI fd, nI ll, xol, xea, fw_w w, nI i, xfo, nI sp, nI p, nI b, nI lim, nI us, iK, iA, iB, xM, xO, xS, FK, FA, FB, FM, inp, lst, out, vs, xR, xL) → wpX_doItem post (xic, xoc, nI N, xhf, nI fd, nI ll, xol, xea, fw_w w, nI i, xfo, nI sp, nI p, nI b, nI lim, nI us, iK, iA, iB, xM, xO, xS, FK, FA, FB, FM, inp, lst, out, vs, xR, xL) (nI 11) (FA i) (FB i)) ∧ (∀ post : Int32 → SY → Prop, post r (yic, nI N, nI fd, nI ll, ymd, ysa, ytk, nI dp, q, nI b, nI sp, nI us, ynx, yra, fw_r w, iK, iA, iB, FK, FA, FB, inp, lst, out, vs, yO, yN, yS, yT) → wY_item_113 post (nI i) (nI 11) yic (nI N) (nI fd) (nI ll) ymd ysa ytk (nI dp) (nI p) (nI b) (nI sp) (nI us) ynx yra (fw_r w) iK iA iB FK FA FB inp lst out vs yO yN yS yT)) ∨ (∃ (p' b' us' ll' : Nat) (lst' out' vs' : Nat → Int32), p' ≤ lim ∧ b' ≤ 7 ∧ (0 < b' → 0 < p') ∧ us' ≤ ll' ∧ ll' ≤ 40 ∧ (∀ post : Int32 → SX → Prop, post 0 (xic, xoc, nI N, xhf, nI fd, nI ll', xol, xea, fw_w w, nI i, xfo, nI sp, nI p', nI b', nI lim, nI us', iK, iA, iB, xM, xO, xS, FK, FA, FB, FM, inp, lst', out', vs', xR, xL) → wpX_doItem post (xic, xoc, nI N, xhf, nI fd, nI ll, xol, xea, fw_w w, nI i, xfo, nI sp, nI p, nI b, nI lim, nI us, iK, iA, iB, xM, xO, xS, FK, FA, FB, FM, inp, lst, out, vs, xR, xL) (nI 11) (FA i) (FB i)) ∧ (∀ post : Int32 → SY → Prop, post 0 (yic, nI N, nI fd, nI ll', ymd, ysa, ytk, nI dp, nI p', nI b', nI sp, nI us', ynx, yra, fw_r w, iK, iA, iB, FK, FA, FB, inp, lst', out', vs', yO, yN, yS, yT) → wY_item_113 post (nI i) (nI 11) yic (nI N) (nI fd) (nI ll) ymd ysa ytk (nI dp) (nI p) (nI b) (nI sp) (nI us) ynx yra (fw_r w) iK iA iB FK FA FB inp lst out vs yO yN yS yT)) := by
  obtain ⟨hi, hlim, ci, vi⟩ := rE_i E
  obtain ⟨v, hv, ev, vv, cv⟩ := rE_v (FB i)
  have ev' : FB (nI i).toNatClampNeg &&& 7 = nI v := by rw [ci]; exact ev
  refine Or.inr ⟨p, b, us, ll, lst, out, upd vs v (vs v + FA i), hp, hb, hbp, hus, hll, fun post H => nm_r ev (br_f (by decide) (br_f (by decide) (br_f (by decide) (br_f (by decide) (br_f (by decide) (br_f (by decide) (br_f (by decide) (br_f (by decide) (br_f (by decide) (br_f (by decide) (br_f (by decide) (br_f (by decide) (br_f (by decide) (br_t (by decide) (⟨vv, vv, nm_r (by rw [cv]) H⟩))))))))))))))), fun post H => ⟨vi, nm_r ev' (br_t (by decide) (br_t (by decide) ⟨vi, ?_⟩))⟩⟩
  rw [ci]
  exact br_f (by decide) (br_t (by decide) ⟨vv, vv, nm_r (by rw [cv]) H⟩)
end
end
section
/-! ALIGN, and the numbers that a parse takes -/
section
variable {xic xoc xfc xhf xil xll xol xea xwr xcu xfo xsp xpo xbl xli xvu yic ysz yfd yls ymd ysa ytk ydp yps ybi ysp yus ynx yra yrd : Int32} {iK iA iB xM xO xS FK FA FB FM inp lst out vs xR xL yO yN yS yT : Nat → Int32}
variable {N fd ll i sp p b lim us dp base S : Nat} {w : Bool}
theorem ra_4 {post : Int32 → SX → Prop} {m c : Nat} (hp : p ≤ 64) (h2 : 2 ≤ m) (h8 : m ≤ 8) (hc : c ≤ p) (hcm : p ≤ c * m) (hit : ∀ j, j * m < p ↔ j < c) (H : wX_doAlign_28 post (nI (c * m)) xic xoc (nI N) xhf (nI fd) (nI ll) xol xea (fw_w w) (nI i) xfo (nI sp) (nI p) (nI b) (nI lim) (nI us) iK iA iB xM xO xS FK FA FB FM inp lst out vs xR xL) : ∀ d j : Nat, j + d = c → wX_doAlign_4 post (nI m) xic xoc (nI N) xhf (nI fd) (nI ll) xol xea (fw_w w) (nI i) xfo (nI sp) (nI p) (nI b) (nI lim) (nI us) iK iA iB xM xO xS FK FA FB FM inp lst out vs xR xL (d + 1) (nI (j * m)) (nI j) := by
  have hb : ∀ j, j ≤ 64 → j * m ≤ 64 * 8 := fun j hj => Nat.mul_le_mul hj h8
  intro d
  induction d with
  | zero =>
    intro j hj
    have e : j = c := by omega
    rw [e]
    have q := hb c (by omega)
    by_cases h64 : c < 64
    · exact br_f (nI_ge (b := 64) h64 (by decide)) (br_t (nI_le hcm (by omega)) H)
    · exact br_t (nI_le (a := 64) (by omega) (by omega)) H
  | succ d ih =>
    intro j hj
    have q := hb j (by omega)
    have hj2 := (hit j).mpr (by omega)
    have e : nI (j * m) + nI m = nI ((j + 1) * m) := by rw [nI_add, Nat.succ_mul]
    exact br_f (nI_ge (b := 64) (by omega) (by decide)) (br_f (nI_ge hj2 (by omega)) (nm_r e (nm_r (nI_1 j) (ih (j + 1) (by omega)))))
theorem ra_lock {r : Nat} (hr : p + r ≤ 64) : ∀ (d j : Nat) (out : Nat → Int32), j + d = r →
    (w = false ∧ ∃ q : Int32, (∀ post : Int32 → SX → Prop, post 6 (xic, xoc, nI N, xhf, nI fd, nI ll, xol, xea, fw_w w, nI i, xfo, nI sp, nI p, nI b, nI lim, nI us, iK, iA, iB, xM, xO, xS, FK, FA, FB, FM, inp, lst, out, vs, xR, xL) → wX_doAlign_43 post (nI (p + r)) xic xoc (nI N) xhf (nI fd) (nI ll) xol xea (fw_w w) (nI i) xfo (nI sp) (nI p) (nI b) (nI lim) (nI us) (d + 1) (nI (p + j)) iK iA iB xM xO xS FK FA FB FM inp lst out vs xR xL) ∧ (∀ post : Int32 → SY → Prop, post 6 (yic, nI N, nI fd, nI ll, ymd, ysa, ytk, nI dp, q, nI b, nI sp, nI us, ynx, yra, fw_r w, iK, iA, iB, FK, FA, FB, inp, lst, out, vs, yO, yN, yS, yT) → wY_plain_147 post (nI r) (d + 1) (nI j) yic (nI N) (nI fd) (nI ll) ymd ysa ytk (nI dp) (nI (p + j)) (nI b) (nI sp) (nI us) ynx yra (fw_r w) iK iA iB FK FA FB inp lst out vs yO yN yS yT)) ∨ (∃ out' : Nat → Int32, (∀ post : Int32 → SX → Prop, post 0 (xic, xoc, nI N, xhf, nI fd, nI ll, xol, xea, fw_w w, nI i, xfo, nI sp, nI (p + r), nI b, nI lim, nI us, iK, iA, iB, xM, xO, xS, FK, FA, FB, FM, inp, lst, out', vs, xR, xL) → wX_doAlign_43 post (nI (p + r)) xic xoc (nI N) xhf (nI fd) (nI ll) xol xea (fw_w w) (nI i) xfo (nI sp) (nI p) (nI b) (nI lim) (nI us) (d + 1) (nI (p + j)) iK iA iB xM xO xS FK FA FB FM inp lst out vs xR xL) ∧ (∀ post : Int32 → SY → Prop, post 0 (yic, nI N, nI fd, nI ll, ymd, ysa, ytk, nI dp, nI (p + r), nI b, nI sp, nI us, ynx, yra, fw_r w, iK, iA, iB, FK, FA, FB, inp, lst, out', vs, yO, yN, yS, yT) → wY_plain_147 post (nI r) (d + 1) (nI j) yic (nI N) (nI fd) (nI ll) ymd ysa ytk (nI dp) (nI (p + j)) (nI b) (nI sp) (nI us) ynx yra (fw_r w) iK iA iB FK FA FB inp lst out vs yO yN yS yT)) := by
  intro d
  induction d with
  | zero =>
    intro j out hj
    have e : j = r := by omega
    rw [e]
    exact Or.inr ⟨out, fun post H => br_t (nI_le (by omega) (by omega)) H, fun post H => br_t (nI_le (by omega) (by omega)) H⟩
  | succ d ih =>
    intro j out hj
    have vj : vp_in (nI (p + j)) 64 := vp_in_nI (by omega) (by omega)
    have cj : (nI (p + j)).toNatClampNeg = p + j := nI_clamp (by omega)
    have cX : ¬ nI (p + r) ≤ nI (p + j) := nI_ge (by omega) (by omega)
    have cY : ¬ nI r ≤ nI j := nI_ge (by omega) (by omega)
    cases w with
    | false =>
      by_cases h0 : inp (p + j) = 0
      · have x0 : inp (nI (p + j)).toNatClampNeg = 0 := by rw [cj]; exact h0
        rcases ih (j + 1) out (by omega) with ⟨hw, q, HX, HY⟩ | ⟨out', HX, HY⟩
        · exact Or.inl ⟨rfl, q, fun post H => br_f cX (br_t rfl ⟨vj, br_t x0 (nm_r (nI_1 (p + j)) (HX post H))⟩), fun post H => br_f cY (ry_ex0 (w := false) (by omega) (fun _ => h0) (br_t rfl (nm_r (nI_1 j) (HY post H))))⟩
        · exact Or.inr ⟨out', fun post H => br_f cX (br_t rfl ⟨vj, br_t x0 (nm_r (nI_1 (p + j)) (HX post H))⟩), fun post H => br_f cY (ry_ex0 (w := false) (by omega) (fun _ => h0) (br_t rfl (nm_r (nI_1 j) (HY post H))))⟩
      · have x0 : ¬ inp (nI (p + j)).toNatClampNeg = 0 := by rw [cj]; exact h0
        exact Or.inl ⟨rfl, nI (p + j), fun post H => br_f cX (br_t rfl ⟨vj, br_f x0 H⟩), fun post H => br_f cY (ry_ex5 (w := false) (by omega) rfl h0 (br_f (by decide) H))⟩
    | true =>
      rcases ih (j + 1) (upd out (p + j) 0) (by omega) with ⟨hw, q, HX, HY⟩ | ⟨out', HX, HY⟩
      · exact absurd hw (by decide)
      · exact Or.inr ⟨out', fun post H => br_f cX (br_f (by decide) ⟨vj, nm_r (by rw [cj]) (nm_r (nI_1 (p + j)) (HX post H))⟩), fun post H => br_f cY (ry_ex0 (w := true) (by omega) (fun z => absurd z (by decide)) (br_t rfl (nm_r (nI_1 j) (HY post H))))⟩
theorem rf_8 (E : fr_E FK xR xL yO yN N fd lim S i dp w) (hp : p ≤ lim) (hb : b ≤ 7) (hbp : 0 < b → 0 < p) (hus : us ≤ ll) (hll : ll ≤ 40) {m : Nat} (h2 : 2 ≤ m) (h8 : m ≤ 8) (ha : FA i = nI m) : (∃ (r q : Int32), r ≠ 0 ∧ (w = true → q = nI p) ∧ (∀ post : Int32 → SX → Prop, post r (xic, xoc, nI N, xhf, nI fd, nI ll, xol, xea, fw_w w, nI i, xfo, nI sp, nI p, nI b, nI lim, nI us, iK, iA, iB, xM, xO, xS, FK, FA, FB, FM, inp, lst, out, vs, xR, xL) → wpX_doItem post (xic, xoc, nI N, xhf, nI fd, nI ll, xol, xea, fw_w w, nI i, xfo, nI sp, nI p, nI b, nI lim, nI us, iK, iA, iB, xM, xO, xS, FK, FA, FB, FM, inp, lst, out, vs, xR, xL) (nI 8) (FA i) (FB i)) ∧ (∀ post : Int32 → SY → Prop, post r (yic, nI N, nI fd, nI ll, ymd, ysa, ytk, nI dp, q, nI b, nI sp, nI us, ynx, yra, fw_r w, iK, iA, iB, FK, FA, FB, inp, lst, out, vs, yO, yN, yS, yT) → wY_item_113 post (nI i) (nI 8) yic (nI N) (nI fd) (nI ll) ymd ysa ytk (nI dp) (nI p) (nI b) (nI sp) (nI us) ynx yra (fw_r w) iK iA iB FK FA FB inp lst out vs yO yN yS yT)) ∨ (∃ (p' b' us' ll' : Nat) (lst' out' vs' : Nat → Int32), p' ≤ lim ∧ b' ≤ 7 ∧ (0 < b' → 0 < p') ∧ us' ≤ ll' ∧ ll' ≤ 40 ∧ (∀ post : Int32 → SX → Prop, post 0 (xic, xoc, nI N, xhf, nI fd, nI ll', xol, xea, fw_w w, nI i, xfo, nI sp, nI p', nI b', nI lim, nI us', iK, iA, iB, xM, xO, xS, FK, FA, FB, FM, inp, lst', out', vs', xR, xL) → wpX_doItem post (xic, xoc, nI N, xhf, nI fd, nI ll, xol, xea, fw_w w, nI i, xfo, nI sp, nI p, nI b, nI lim, nI us, iK, iA, iB, xM, xO, xS, FK, FA, FB, FM, inp, lst, out, vs, xR, xL) (nI 8) (FA i) (FB i)) ∧ (∀ post : Int32 → SY → Prop, post 0 (yic, nI N, nI fd, nI ll', ymd, ysa, ytk, nI dp, nI p', nI b', nI sp, nI us', ynx, yra, fw_r w, iK, iA, iB, FK, FA, FB, inp, lst', out', vs', yO, yN, yS, yT) → wY_item_113 post (nI i) (nI 8) yic (nI N) (nI fd) (nI ll) ymd ysa ytk (nI dp) (nI p) (nI b) (nI sp) (nI us) ynx yra (fw_r w) iK iA iB FK FA FB inp lst out vs yO yN yS yT)) := by
  obtain ⟨hi, hlim, ci, vi⟩ := rE_i E
  obtain ⟨v, hv, ev, vv, cv⟩ := rE_v (FB i)
  have ev' : FB (nI i).toNatClampNeg &&& 7 = nI v := by rw [ci]; exact ev
  obtain ⟨c, hc1, hc2, hc3⟩ := fa_al (p := p) h2 h8
  have hmod : p % m < m := Nat.mod_lt _ (by omega)
  have hmod2 : (m - p % m) % m < m := Nat.mod_lt _ (by omega)
  have HX : ∀ post : Int32 → SX → Prop, wX_doAlign_28 (fun r u => match u with | (xic, xoc, xfc, xhf, xil, xll, xol, xea, xwr, xcu, xfo, xsp, xpo, xbl, xli, xvu, iK, iA, iB, xM, xO, xS, FK, FA, FB, FM, inp, lst, out, vs, xR, xL) => post r (xic, xoc, xfc, xhf, xil, xll, xol, xea, xwr, xcu, xfo, xsp, xpo, xbl, xli, xvu, iK, iA, iB, xM, xO, xS, FK, FA, FB, FM, inp, lst, out, vs, xR, xL)) (nI (c * m)) xic xoc (nI N) xhf (nI fd) (nI ll) xol xea (fw_w w) (nI i) xfo (nI sp) (nI p) (nI b) (nI lim) (nI us) iK iA iB xM xO xS FK FA FB FM inp lst out vs xR xL → wpX_doItem post (xic, xoc, nI N, xhf, nI fd, nI ll, xol, xea, fw_w w, nI i, xfo, nI sp, nI p, nI b, nI lim, nI us, iK, iA, iB, xM, xO, xS, FK, FA, FB, FM, inp, lst, out, vs, xR, xL) (nI 8) (FA i) (FB i) := by
    intro post H
    rw [ha]
    refine nm_r ev (br_f (by decide) (br_f (by decide) (br_f (by decide) (br_f (by decide) (br_f (by decide) (br_f (by decide) (br_f (by decide) (br_f (by decide) (br_f (by decide) (br_f (by decide) (br_t (by decide) (⟨c + 1, ?_⟩))))))))))))
    have K := ra_4 (by omega) h2 h8 hc2 (by omega) hc3 H c 0 (by omega)
    rw [Nat.zero_mul] at K
    exact K
  have m0 : ¬ nI m = 0 := nI_ne0 (by omega) (by omega)
  have er : (nI m - (nI p - nI p / nI m * nI m)) - (nI m - (nI p - nI p / nI m * nI m)) / nI m * nI m = nI ((m - p % m) % m) := by
    rw [pk_rem (by omega) (by omega) (by omega), pk_sub (by omega), pk_rem (by omega) (by omega) (by omega)]
  generalize hr : (m - p % m) % m = r at *
  rw [hc1] at HX
  have HY : ∀ post : Int32 → SY → Prop, wpY_room (fun r_170 => (r_170 = 0 → post 3 (yic, nI N, nI fd, nI ll, ymd, ysa, ytk, nI dp, nI p, nI b, nI sp, nI us, ynx, yra, fw_r w, iK, iA, iB, FK, FA, FB, inp, lst, out, vs, yO, yN, yS, yT)) ∧ (¬ r_170 = 0 → ∃ n147 : Nat, wY_plain_147 post (nI r) n147 0 yic (nI N) (nI fd) (nI ll) ymd ysa ytk (nI dp) (nI p) (nI b) (nI sp) (nI us) ynx yra (fw_r w) iK iA iB FK FA FB inp lst out vs yO yN yS yT)) (yic, nI N, nI fd, nI ll, ymd, ysa, ytk, nI dp, nI p, nI b, nI sp, nI us, ynx, yra, fw_r w, iK, iA, iB, FK, FA, FB, inp, lst, out, vs, yO, yN, yS, yT) (nI r) → wY_item_113 post (nI i) (nI 8) yic (nI N) (nI fd) (nI ll) ymd ysa ytk (nI dp) (nI p) (nI b) (nI sp) (nI us) ynx yra (fw_r w) iK iA iB FK FA FB inp lst out vs yO yN yS yT := by
    intro post H
    refine ⟨vi, nm_r ev' (br_t (by decide) (br_t (by decide) ⟨vi, ?_⟩))⟩
    rw [ci, ha]
    exact br_f (by decide) (br_f (by decide) (br_f (by decide) (br_f (by decide) (br_f (by decide) (br_f (by decide) (br_f (by decide) (br_t (by decide) ⟨m0, m0, nm_r er H⟩)))))))
  by_cases h : p + r ≤ lim
  · rcases ra_lock (p := p) (w := w) (r := r) (by omega) r 0 out (by omega) (xic := xic) (xoc := xoc) (xhf := xhf) (xol := xol) (xea := xea) (xfo := xfo) (lim := lim) (us := us) (i := i) (xS := xS) (xM := xM) (xO := xO) (FM := FM) (xR := xR) (xL := xL) (yic := yic) (ymd := ymd) (ysa := ysa) (ytk := ytk) (dp := dp) (ynx := ynx) (yra := yra) (yO := yO) (yN := yN) (yS := yS) (yT := yT) (iK := iK) (iA := iA) (iB := iB) (FK := FK) (FA := FA) (FB := FB) (inp := inp) (lst := lst) (vs := vs) (N := N) (fd := fd) (ll := ll) (sp := sp) (b := b) with ⟨hw, q, KX, KY⟩ | ⟨out', KX, KY⟩
    · refine Or.inl ⟨6, q, by decide, fun z => ?_, fun post H => HX _ (br_t (nI_le h (by omega)) ⟨r + 1, KX _ H⟩), fun post H => HY _ (rE_1 E h (br_f (by decide) ⟨r + 1, KY _ H⟩))⟩
      rw [hw] at z
      exact absurd z (by decide)
    · exact Or.inr ⟨p + r, b, us, ll, lst, out', vs, h, hb, fun z => by have := hbp z; omega, hus, hll, fun post H => HX _ (br_t (nI_le h (by omega)) ⟨r + 1, KX _ H⟩), fun post H => HY _ (rE_1 E h (br_f (by decide) ⟨r + 1, KY _ H⟩))⟩
  · exact Or.inl ⟨3, nI p, by decide, fun _ => rfl, fun post H => HX _ (br_f (nI_ge (by omega) (by omega)) H), fun post H => HY _ (rE_0 E hp (by omega) (by omega) (br_t rfl H))⟩
end
end
section
/-! the numbers that a parse takes: INT, VAR, BITS -/
def fq (a b : Nat) : Nat := if a ≤ b then 0 else (a - b + 7) / 8
theorem fq_le {a b l : Nat} (h : fq a b ≤ l) : a ≤ b + 8 * l := by
  unfold fq at h
  by_cases z : a ≤ b
  · omega
  · rw [if_neg z] at h
    omega
theorem fq_lt {a b : Nat} (ha : a ≤ 16) : fq a b ≤ 16 := by
  unfold fq
  by_cases z : a ≤ b
  · rw [if_pos z]; omega
  · rw [if_neg z]; omega
theorem fv_127 (t : Int32) : t ≤ 127 ↔ ¬ 128 ≤ t := by
  rw [Int32.le_iff_toInt_le, Int32.le_iff_toInt_le, show (127 : Int32).toInt = 127 by decide, show (128 : Int32).toInt = 128 by decide]
  omega
theorem fv_15 {t : Int32} (h : ¬ 15 < t) : t ≤ 127 := by
  rw [Int32.lt_iff_toInt_lt, show (15 : Int32).toInt = 15 by decide] at h
  rw [Int32.le_iff_toInt_le, show (127 : Int32).toInt = 127 by decide]
  omega
section
variable {xic xoc xfc xhf xil xll xol xea xwr xcu xfo xsp xpo xbl xli xvu yic ysz yfd yls ymd ysa ytk ydp yps ybi ysp yus ynx yra yrd : Int32} {iK iA iB xM xO xS FK FA FB FM inp lst out vs xR xL yO yN yS yT : Nat → Int32}
variable {N fd ll i sp p b lim us dp base S : Nat} {w : Bool}
theorem rx_kr {post : SX → Prop} {v : Nat} {x : Int32} (hl : ll < 40) (hv : v < 8) (H : post (xic, xoc, nI N, xhf, nI fd, nI (ll + 1), xol, xea, fw_w w, nI i, xfo, nI sp, nI p, nI b, nI lim, nI us, iK, iA, iB, xM, xO, xS, FK, FA, FB, FM, inp, upd lst ll x, out, upd vs v x, xR, xL)) : wpX_keepRead post (xic, xoc, nI N, xhf, nI fd, nI ll, xol, xea, fw_w w, nI i, xfo, nI sp, nI p, nI b, nI lim, nI us, iK, iA, iB, xM, xO, xS, FK, FA, FB, FM, inp, lst, out, vs, xR, xL) x (nI v) := by
  have cl : (nI ll).toNatClampNeg = ll := nI_clamp (by omega)
  have cv : (nI v).toNatClampNeg = v := nI_clamp (by omega)
  exact ⟨vp_in_nI hl (by omega), nm_r (by rw [cl]) (nm_r (nI_1 ll) ⟨vp_in_nI hv (by omega), nm_r (by rw [cv]) H⟩)⟩
theorem ry_kp {post : Int32 → SY → Prop} {v : Nat} {x : Int32} (hl : ll < 40) (hv : v < 8) (H : post 0 (yic, nI N, nI fd, nI (ll + 1), ymd, ysa, ytk, nI dp, nI p, nI b, nI sp, nI us, ynx, yra, fw_r w, iK, iA, iB, FK, FA, FB, inp, upd lst ll x, out, upd vs v x, yO, yN, yS, yT)) : wpY_keep post (yic, nI N, nI fd, nI ll, ymd, ysa, ytk, nI dp, nI p, nI b, nI sp, nI us, ynx, yra, fw_r w, iK, iA, iB, FK, FA, FB, inp, lst, out, vs, yO, yN, yS, yT) (nI v) x := by
  have cl : (nI ll).toNatClampNeg = ll := nI_clamp (by omega)
  have cv : (nI v).toNatClampNeg = v := nI_clamp (by omega)
  exact ⟨vp_in_nI hv (by omega), nm_r (by rw [cv]) (nm_r (nI_1 ll) ⟨vp_in_nI hl (by omega), nm_r (by rw [cl]) H⟩)⟩
/-! INT -/
theorem ri_X {post : Int32 → SX → Prop} {a : Nat} {fl : Int32} {f : Nat → Int32} (hpa : p + a ≤ 64) (h0 : (fl &&& 8) = 0 → ∀ j, j < a → f j = inp (p + j)) (h1 : ¬ (fl &&& 8) = 0 → ∀ j, j < a → f j = inp (p + (a - 1 - j))) (H : ((fl &&& 16) = 0 → wX_readInt_84 post (nI a) fl (fr_X f a) xic xoc (nI N) xhf (nI fd) (nI ll) xol xea (fw_w w) (nI i) xfo (nI sp) (nI p) (nI b) (nI lim) (nI us) iK iA iB xM xO xS FK FA FB FM inp lst out vs xR xL) ∧ (¬ (fl &&& 16) = 0 → wpX_extendSign (fun r => wX_readInt_84 post (nI a) fl r xic xoc (nI N) xhf (nI fd) (nI ll) xol xea (fw_w w) (nI i) xfo (nI sp) (nI p) (nI b) (nI lim) (nI us) iK iA iB xM xO xS FK FA FB FM inp lst out vs xR xL) (xic, xoc, nI N, xhf, nI fd, nI ll, xol, xea, fw_w w, nI i, xfo, nI sp, nI p, nI b, nI lim, nI us, iK, iA, iB, xM, xO, xS, FK, FA, FB, FM, inp, lst, out, vs, xR, xL) (fr_X f a) (nI a))) : ∀ d j : Nat, j + d = a → wX_readInt_20 post (nI a) fl xic xoc (nI N) xhf (nI fd) (nI ll) xol xea (fw_w w) (nI i) xfo (nI sp) (nI p) (nI b) (nI lim) (nI us) iK iA iB xM xO xS FK FA FB FM inp lst out vs xR xL (d + 1) (fr_X f j) (nI j) := by
  intro d
  induction d with
  | zero =>
    intro j hj
    have e : j = a := by omega
    rw [e]
    exact br_t (nI_le (by omega) (by omega)) H
  | succ d ih =>
    intro j hj
    have K := ih (j + 1) (by omega)
    refine br_f (nI_ge (by omega) (by omega)) ?_
    by_cases z : (fl &&& 8) = 0
    · have e1 : nI p + nI j = nI (p + j) := nI_add p j
      have v1 : vp_in (nI p + nI j) 64 := by rw [e1]; exact vp_in_nI (by omega) (by omega)
      have c1 : (nI p + nI j).toNatClampNeg = p + j := by rw [e1]; exact nI_clamp (by omega)
      exact br_t z ⟨v1, nm_r (e' := fr_X f (j + 1)) (by rw [c1, ← h0 z j (by omega)]; rfl) (nm_r (nI_1 j) K)⟩
    · have e0 : (nI a - 1) - nI j = nI (a - 1 - j) := by
        have : nI a - 1 = nI (a - 1) := pk_sub (b := 1) (by omega)
        rw [this, pk_sub (by omega)]
      have e1 : nI p + ((nI a - 1) - nI j) = nI (p + (a - 1 - j)) := by rw [e0, nI_add]
      have v1 : vp_in (nI p + ((nI a - 1) - nI j)) 64 := by rw [e1]; exact vp_in_nI (by omega) (by omega)
      have c1 : (nI p + ((nI a - 1) - nI j)).toNatClampNeg = p + (a - 1 - j) := by rw [e1]; exact nI_clamp (by omega)
      exact br_f z ⟨v1, nm_r (e' := fr_X f (j + 1)) (by rw [c1, ← h1 z j (by omega)]; rfl) (nm_r (nI_1 j) K)⟩
theorem ri_Y {post : Int32 → SY → Prop} {a v : Nat} {x6 : Int32} {s : Nat → Nat} (hpa : p + a ≤ 64) (ha : a ≤ 4) (h0 : x6 = 0 → ∀ j, j < a → s j = a - 1 - j) (h1 : ¬ x6 = 0 → ∀ j, j < a → s j = j)
    (H : vp_in (nI i) 40 ∧ (((FB (nI i).toNatClampNeg &&& 16) = 0 → wY_take_168 post (nI v) (fr_Y (fun j => inp (p + j)) s a) yic (nI N) (nI fd) (nI ll) ymd ysa ytk (nI dp) (nI (p + a)) (nI b) (nI sp) (nI us) ynx yra (fw_r w) iK iA iB FK FA FB inp lst out vs yO yN yS yT) ∧ (¬ (FB (nI i).toNatClampNeg &&& 16) = 0 → ∀ x, x = ((fr_Y (fun j => inp (p + j)) s a) <<< ((32 - (8 * nI a)) &&& 31)) >>> ((32 - (8 * nI a)) &&& 31) → wY_take_168 post (nI v) x yic (nI N) (nI fd) (nI ll) ymd ysa ytk (nI dp) (nI (p + a)) (nI b) (nI sp) (nI us) ynx yra (fw_r w) iK iA iB FK FA FB inp lst out vs yO yN yS yT))) : ∀ d j : Nat, j + d = a → wY_take_72 post (nI i) (nI v) (nI a) x6 yic (nI N) (nI fd) (nI ll) ymd ysa ytk (nI dp) (nI p) (nI b) (nI sp) (nI us) ynx yra (fw_r w) iK iA iB FK FA FB inp lst out vs yO yN yS yT (d + 1) (fr_Y (fun j => inp (p + j)) s j) (nI j) := by
  intro d
  induction d with
  | zero =>
    intro j hj
    have e : j = a := by omega
    rw [e]
    exact br_t (nI_le (by omega) (by omega)) (nm_r (nI_add p a) H)
  | succ d ih =>
    intro j hj
    have K := ih (j + 1) (by omega)
    have e1 : nI p + nI j = nI (p + j) := nI_add p j
    have v1 : vp_in (nI p + nI j) 64 := by rw [e1]; exact vp_in_nI (by omega) (by omega)
    have c1 : (nI p + nI j).toNatClampNeg = p + j := by rw [e1]; exact nI_clamp (by omega)
    refine br_f (nI_ge (by omega) (by omega)) ⟨v1, ?_⟩
    by_cases z : x6 = 0
    · have e0 : (8 : Int32) * ((nI a - 1) - nI j) = nI (8 * s j) := by
        have : nI a - 1 = nI (a - 1) := pk_sub (b := 1) (by omega)
        rw [this, pk_sub (by omega), h0 z j (by omega)]
        exact pk_mul 8 _
      exact br_t z (nm_r (e' := fr_Y (fun j => inp (p + j)) s (j + 1)) (by rw [c1, e0]; rfl) (nm_r (nI_1 j) K))
    · have e0 : (8 : Int32) * nI j = nI (8 * s j) := by
        rw [h1 z j (by omega)]
        exact pk_mul 8 _
      exact br_f z (nm_r (e' := fr_Y (fun j => inp (p + j)) s (j + 1)) (by rw [c1, e0]; rfl) (nm_r (nI_1 j) K))
theorem rf_0r (E : fr_E FK xR xL yO yN N fd lim S i dp w) (hp : p ≤ lim) (hb : b ≤ 7) (hbp : 0 < b → 0 < p) (hus : us ≤ ll) (hll : ll ≤ 40) {a : Nat} (h1 : 1 ≤ a) (h4 : a ≤ 4) (ha : FA i = nI a) (hw : w = false) (hl : ll < 40) : (∃ (r q : Int32), r ≠ 0 ∧ (w = true → q = nI p) ∧ (∀ post : Int32 → SX → Prop, post r (xic, xoc, nI N, xhf, nI fd, nI ll, xol, xea, fw_w w, nI i, xfo, nI sp, nI p, nI b, nI lim, nI us, iK, iA, iB, xM, xO, xS, FK, FA, FB, FM, inp, lst, out, vs, xR, xL) → wpX_doItem post (xic, xoc, nI N, xhf, nI fd, nI ll, xol, xea, fw_w w, nI i, xfo, nI sp, nI p, nI b, nI lim, nI us, iK, iA, iB, xM, xO, xS, FK, FA, FB, FM, inp, lst, out, vs, xR, xL) (nI 0) (FA i) (FB i)) ∧ (∀ post : Int32 → SY → Prop, post r (yic, nI N, nI fd, nI ll, ymd, ysa, ytk, nI dp, q, nI b, nI sp, nI us, ynx, yra, fw_r w, iK, iA, iB, FK, FA, FB, inp, lst, out, vs, yO, yN, yS, yT) → wY_item_113 post (nI i) (nI 0) yic (nI N) (nI fd) (nI ll) ymd ysa ytk (nI dp) (nI p) (nI b) (nI sp) (nI us) ynx yra (fw_r w) iK iA iB FK FA FB inp lst out vs yO yN yS yT)) ∨ (∃ (p' b' us' ll' : Nat) (lst' out' vs' : Nat → Int32), p' ≤ lim ∧ b' ≤ 7 ∧ (0 < b' → 0 < p') ∧ us' ≤ ll' ∧ ll' ≤ 40 ∧ (∀ post : Int32 → SX → Prop, post 0 (xic, xoc, nI N, xhf, nI fd, nI ll', xol, xea, fw_w w, nI i, xfo, nI sp, nI p', nI b', nI lim, nI us', iK, iA, iB, xM, xO, xS, FK, FA, FB, FM, inp, lst', out', vs', xR, xL) → wpX_doItem post (xic, xoc, nI N, xhf, nI fd, nI ll, xol, xea, fw_w w, nI i, xfo, nI sp, nI p, nI b, nI lim, nI us, iK, iA, iB, xM, xO, xS, FK, FA, FB, FM, inp, lst, out, vs, xR, xL) (nI 0) (FA i) (FB i)) ∧ (∀ post : Int32 → SY → Prop, post 0 (yic, nI N, nI fd, nI ll', ymd, ysa, ytk, nI dp, nI p', nI b', nI sp, nI us', ynx, yra, fw_r w, iK, iA, iB, FK, FA, FB, inp, lst', out', vs', yO, yN, yS, yT) → wY_item_113 post (nI i) (nI 0) yic (nI N) (nI fd) (nI ll) ymd ysa ytk (nI dp) (nI p) (nI b) (nI sp) (nI us) ynx yra (fw_r w) iK iA iB FK FA FB inp lst out vs yO yN yS yT)) := by
  obtain ⟨hi, hlim, ci, vi⟩ := rE_i E
  obtain ⟨v, hv, ev, vv, cv⟩ := rE_v (FB i)
  have ev' : FB (nI i).toNatClampNeg &&& 7 = nI v := by rw [ci]; exact ev
  have eb : FB (nI i).toNatClampNeg = FB i := by rw [ci]
  have ea : FA (nI i).toNatClampNeg = nI a := by rw [ci]; exact ha
  have esub : nI lim - nI p = nI (lim - p) := pk_sub hp
  subst hw
  by_cases h : p + a ≤ lim
  · -- the number
    have cX : nI a ≤ nI lim - nI p := by rw [esub]; exact nI_le (by omega) (by omega)
    obtain ⟨f, s, g0, g1, s0, s1, heq⟩ : ∃ (f : Nat → Int32) (s : Nat → Nat), ((FB i &&& 8) = 0 → ∀ j, j < a → f j = inp (p + j)) ∧ (¬ (FB i &&& 8) = 0 → ∀ j, j < a → f j = inp (p + (a - 1 - j))) ∧ ((FB i &&& 8) = 0 → ∀ j, j < a → s j = a - 1 - j) ∧ (¬ (FB i &&& 8) = 0 → ∀ j, j < a → s j = j) ∧ fr_X f a = fr_Y (fun j => inp (p + j)) s a := by
      by_cases z : (FB i &&& 8) = 0
      · exact ⟨fun j => inp (p + j), fun j => a - 1 - j, fun _ j _ => rfl, fun y => absurd z y, fun _ j _ => rfl, fun y => absurd z y, fr_big _ h1 h4⟩
      · exact ⟨fun j => inp (p + (a - 1 - j)), fun j => j, fun y => absurd y z, fun _ j _ => rfl, fun y => absurd y z, fun _ j _ => rfl, fr_low _ _ h1 h4 (fun j hj => rfl)⟩
    obtain ⟨x, hx0, hx1⟩ : ∃ x : Int32, ((FB i &&& 16) = 0 → x = fr_X f a) ∧ (¬ (FB i &&& 16) = 0 → x = ((fr_X f a) <<< ((32 - (8 * nI a)) &&& 31)) >>> ((32 - (8 * nI a)) &&& 31)) := by
      by_cases z : (FB i &&& 16) = 0
      · exact ⟨fr_X f a, fun _ => rfl, fun y => absurd z y⟩
      · exact ⟨_, fun y => absurd y z, fun _ => rfl⟩
    refine Or.inr ⟨p + a, b, us, ll + 1, upd lst ll x, out, upd vs v x, h, hb, fun _ => by omega, by omega, hl, fun post H => ?_, fun post H => ?_⟩
    · rw [ha]
      refine nm_r ev (br_f (by decide) (br_f (by decide) (br_t (by decide) (br_t rfl (br_t cX ⟨a + 1, ri_X (by omega) g0 g1 ?_ a 0 (by omega)⟩)))))
      have K : wX_readInt_84 (fun r_74 u => match u with | (xic, xoc, xfc, xhf, xil, xll, xol, xea, xwr, xcu, xfo, xsp, xpo, xbl, xli, xvu, iK, iA, iB, xM, xO, xS, FK, FA, FB, FM, inp, lst, out, vs, xR, xL) => post r_74 (xic, xoc, xfc, xhf, xil, xll, xol, xea, xwr, xcu, xfo, xsp, xpo, xbl, xli, xvu, iK, iA, iB, xM, xO, xS, FK, FA, FB, FM, inp, lst, out, vs, xR, xL)) (nI a) (FB i) x xic xoc (nI N) xhf (nI fd) (nI ll) xol xea (fw_w false) (nI i) xfo (nI sp) (nI p) (nI b) (nI lim) (nI us) iK iA iB xM xO xS FK FA FB FM inp lst out vs xR xL := by
        refine nm_r (nI_add p a) ?_
        rw [ev]
        exact rx_kr (w := false) hl hv H
      by_cases z : (FB i &&& 16) = 0
      · rw [hx0 z] at K
        exact br_t z K
      · rw [hx1 z] at K
        exact br_f z (nm_e K)
    · refine ⟨vi, nm_r ev' (br_f (by decide) (br_f (by decide) ⟨vi, nm_r ea (br_f (by decide) (br_t (by decide) ?_))⟩))⟩
      have K : wY_take_168 (fun r_137 u => match u with | (yic, ysz, yfd, yls, ymd, ysa, ytk, ydp, yps, ybi, ysp, yus, ynx, yra, yrd, yK, yA, yB, zK, zA, zB, yin, ylst, yout, yvs, yO, yN, yS, yT) => post r_137 (yic, ysz, yfd, yls, ymd, ysa, ytk, ydp, yps, ybi, ysp, yus, ynx, yra, yrd, yK, yA, yB, zK, zA, zB, yin, ylst, yout, yvs, yO, yN, yS, yT)) (nI v) x yic (nI N) (nI fd) (nI ll) ymd ysa ytk (nI dp) (nI (p + a)) (nI b) (nI sp) (nI us) ynx yra (fw_r false) iK iA iB FK FA FB inp lst out vs yO yN yS yT := ry_kp (w := false) hl hv H
      have K2 : vp_in (nI i) 40 ∧ (((FB (nI i).toNatClampNeg &&& 16) = 0 → wY_take_168 (fun r_137 u => match u with | (yic, ysz, yfd, yls, ymd, ysa, ytk, ydp, yps, ybi, ysp, yus, ynx, yra, yrd, yK, yA, yB, zK, zA, zB, yin, ylst, yout, yvs, yO, yN, yS, yT) => post r_137 (yic, ysz, yfd, yls, ymd, ysa, ytk, ydp, yps, ybi, ysp, yus, ynx, yra, yrd, yK, yA, yB, zK, zA, zB, yin, ylst, yout, yvs, yO, yN, yS, yT)) (nI v) (fr_Y (fun j => inp (p + j)) s a) yic (nI N) (nI fd) (nI ll) ymd ysa ytk (nI dp) (nI (p + a)) (nI b) (nI sp) (nI us) ynx yra (fw_r false) iK iA iB FK FA FB inp lst out vs yO yN yS yT) ∧ (¬ (FB (nI i).toNatClampNeg &&& 16) = 0 → ∀ x, x = ((fr_Y (fun j => inp (p + j)) s a) <<< ((32 - (8 * nI a)) &&& 31)) >>> ((32 - (8 * nI a)) &&& 31) → wY_take_168 (fun r_137 u => match u with | (yic, ysz, yfd, yls, ymd, ysa, ytk, ydp, yps, ybi, ysp, yus, ynx, yra, yrd, yK, yA, yB, zK, zA, zB, yin, ylst, yout, yvs, yO, yN, yS, yT) => post r_137 (yic, ysz, yfd, yls, ymd, ysa, ytk, ydp, yps, ybi, ysp, yus, ynx, yra, yrd, yK, yA, yB, zK, zA, zB, yin, ylst, yout, yvs, yO, yN, yS, yT)) (nI v) x yic (nI N) (nI fd) (nI ll) ymd ysa ytk (nI dp) (nI (p + a)) (nI b) (nI sp) (nI us) ynx yra (fw_r false) iK iA iB FK FA FB inp lst out vs yO yN yS yT)) := by
        refine ⟨vi, ?_⟩
        rw [eb, ← heq]
        by_cases z : (FB i &&& 16) = 0
        · rw [hx0 z] at K
          exact br_t z K
        · rw [hx1 z] at K
          exact br_f z (nm_e K)
      refine rE_1 (w := false) E h (br_f (by decide) (br_t (by decide) ⟨vi, ?_⟩))
      rw [eb]
      by_cases z : (FB i &&& 8) = 0
      · exact br_t z ⟨a + 1, ri_Y (by omega) h4 (fun _ => s0 z) (fun y => absurd rfl y) K2 a 0 (by omega)⟩
      · exact br_f z ⟨a + 1, ri_Y (x6 := 1) (by omega) h4 (fun y => absurd y (by decide)) (fun _ => s1 z) K2 a 0 (by omega)⟩
  · have cX : ¬ nI a ≤ nI lim - nI p := by rw [esub]; exact nI_ge (by omega) (by omega)
    refine Or.inl ⟨3, nI p, by decide, fun _ => rfl, fun post H => ?_, fun post H => ⟨vi, nm_r ev' (br_f (by decide) (br_f (by decide) ⟨vi, nm_r ea (br_f (by decide) (br_t (by decide) ?_))⟩))⟩⟩
    · rw [ha]
      exact nm_r ev (br_f (by decide) (br_f (by decide) (br_t (by decide) (br_t rfl (br_f cX H)))))
    · exact rE_0 (w := false) E hp (by omega) (by omega) (br_t rfl H)
end
end
section
/-! VAR and BITS, taken -/
section
variable {xic xoc xfc xhf xil xll xol xea xwr xcu xfo xsp xpo xbl xli xvu yic ysz yfd yls ymd ysa ytk ydp yps ybi ysp yus ynx yra yrd : Int32} {iK iA iB xM xO xS FK FA FB FM inp lst out vs xR xL yO yN yS yT : Nat → Int32}
variable {N fd ll i sp p b lim us dp base S : Nat} {w : Bool}
theorem rv_lock {v : Nat} (E : fr_E FK xR xL yO yN N fd lim S i dp false) (hl : ll < 40) (hv : v < 8) : ∀ (d j : Nat) (x : Int32), j + d = 4 → p + j ≤ lim →
    (∃ (r q : Int32), r ≠ 0 ∧ (∀ post : Int32 → SX → Prop, post r (xic, xoc, nI N, xhf, nI fd, nI ll, xol, xea, fw_w false, nI i, xfo, nI sp, nI p, nI b, nI lim, nI us, iK, iA, iB, xM, xO, xS, FK, FA, FB, FM, inp, lst, out, vs, xR, xL) → wX_readVar_10 post (nI v) xic xoc (nI N) xhf (nI fd) (nI ll) xol xea (fw_w false) (nI i) xfo (nI sp) (nI p) (nI b) (nI lim) (nI us) iK iA iB xM xO xS FK FA FB FM inp lst out vs xR xL (d + 2) x (nI j) 1 (nI j)) ∧ (∀ post : Int32 → SY → Prop, post r (yic, nI N, nI fd, nI ll, ymd, ysa, ytk, nI dp, q, nI b, nI sp, nI us, ynx, yra, fw_r false, iK, iA, iB, FK, FA, FB, inp, lst, out, vs, yO, yN, yS, yT) → wY_takeGroups_4 post (nI v) yic (nI N) (nI fd) (nI ll) ymd ysa ytk (nI dp) (nI b) (nI sp) (nI us) ynx yra (fw_r false) iK iA iB FK FA FB inp lst out vs yO yN yS yT (d + 2) x (nI j) (nI (p + j)))) ∨ (∃ (len : Nat) (y : Int32), 0 < len ∧ p + len ≤ lim ∧ (∀ post : Int32 → SX → Prop, post 0 (xic, xoc, nI N, xhf, nI fd, nI (ll + 1), xol, xea, fw_w false, nI i, xfo, nI sp, nI (p + len), nI b, nI lim, nI us, iK, iA, iB, xM, xO, xS, FK, FA, FB, FM, inp, upd lst ll y, out, upd vs v y, xR, xL) → wX_readVar_10 post (nI v) xic xoc (nI N) xhf (nI fd) (nI ll) xol xea (fw_w false) (nI i) xfo (nI sp) (nI p) (nI b) (nI lim) (nI us) iK iA iB xM xO xS FK FA FB FM inp lst out vs xR xL (d + 2) x (nI j) 1 (nI j)) ∧ (∀ post : Int32 → SY → Prop, post 0 (yic, nI N, nI fd, nI (ll + 1), ymd, ysa, ytk, nI dp, nI (p + len), nI b, nI sp, nI us, ynx, yra, fw_r false, iK, iA, iB, FK, FA, FB, inp, upd lst ll y, out, upd vs v y, yO, yN, yS, yT) → wY_takeGroups_4 post (nI v) yic (nI N) (nI fd) (nI ll) ymd ysa ytk (nI dp) (nI b) (nI sp) (nI us) ynx yra (fw_r false) iK iA iB FK FA FB inp lst out vs yO yN yS yT (d + 2) x (nI j) (nI (p + j)))) := by
  obtain ⟨hi, hlim, ci, vi⟩ := rE_i E
  intro d
  induction d with
  | zero =>
    intro j x hj hpj
    have e4 : j = 4 := by omega
    subst e4
    have e1 : nI p + nI 4 = nI (p + 4) := nI_add p 4
    by_cases h : p + 4 < lim
    · have c1 : nI p + nI 4 < nI lim := by rw [e1]; exact nI_lt h (by omega)
      have v1 : vp_in (nI p + nI 4) 64 := by rw [e1]; exact vp_in_nI (by omega) (by omega)
      have v2 : vp_in (nI (p + 4)) 64 := vp_in_nI (by omega) (by omega)
      have t1 : inp (nI p + nI 4).toNatClampNeg = inp (p + 4) := by rw [e1, nI_clamp (by omega)]
      have t2 : inp (nI (p + 4)).toNatClampNeg = inp (p + 4) := by rw [nI_clamp (by omega)]
      by_cases h15 : 15 < inp (p + 4)
      · exact Or.inl ⟨6, nI (p + 4 + 1), by decide, fun post H => br_f (by decide) (br_f (by decide) (br_t c1 ⟨v1, nm_r t1 (br_t (by decide) (br_t h15 H))⟩)), fun post H => br_f (by decide) (rE_1 (m := 1) (w := false) E (by omega) (br_f (by decide) (nm_r (nI_1 (p + 4)) ⟨v2, nm_r t2 (nm_e (br_t (by decide) (br_t h15 H)))⟩)))⟩
      · by_cases h0 : inp (p + 4) = 0
        · exact Or.inl ⟨6, nI (p + 4 + 1), by decide, fun post H => br_f (by decide) (br_f (by decide) (br_t c1 ⟨v1, nm_r t1 (br_t (by decide) (br_f h15 (br_f (by decide) (br_t h0 H))))⟩)), fun post H => br_f (by decide) (rE_1 (m := 1) (w := false) E (by omega) (br_f (by decide) (nm_r (nI_1 (p + 4)) ⟨v2, nm_r t2 (nm_e (br_t (by decide) (br_f h15 (br_f (by decide) (br_t h0 H)))))⟩)))⟩
        · have h127 := fv_15 h15
          have h128 := (fv_127 _).mp h127
          refine Or.inr ⟨4 + 1, x ||| ((inp (p + 4) &&& 127) <<< (((7 : Int32) * nI 4) &&& 31)), by omega, by omega, fun post H => br_f (by decide) (br_f (by decide) (br_t c1 ⟨v1, nm_r t1 (br_t (by decide) (br_f h15 (br_f (by decide) (br_f h0 (nm_e (br_t h127 (nm_r (nI_1 4) (nm_r (nI_1 4) ?_))))))))⟩)), fun post H => br_f (by decide) (rE_1 (m := 1) (w := false) E (by omega) (br_f (by decide) (nm_r (nI_1 (p + 4)) ⟨v2, nm_r t2 (nm_e (br_t (by decide) (br_f h15 (br_f (by decide) (br_f h0 (br_f h128 ?_))))))⟩)))⟩
          · refine br_t (by decide) (nm_r (nI_add p (4 + 1)) ?_)
            exact rx_kr (w := false) hl hv H
          · exact ry_kp (w := false) hl hv H
    · have c1 : ¬ nI p + nI 4 < nI lim := by rw [e1]; exact nI_nlt (by omega) (by omega)
      exact Or.inl ⟨3, nI (p + 4), by decide, fun post H => br_f (by decide) (br_f (by decide) (br_f c1 H)), fun post H => br_f (by decide) (rE_0 (m := 1) (w := false) E (by omega) (by omega) (by omega) (br_t rfl H))⟩
  | succ d ih =>
    intro j x hj hpj
    have e1 : nI p + nI j = nI (p + j) := nI_add p j
    have j5 : ¬ (5 : Int32) ≤ nI j := nI_ge (b := 5) (by omega) (by decide)
    have j6 : ¬ (5 : Int32) ≤ nI (j + 1) := nI_ge (b := 5) (by omega) (by decide)
    have j4 : ¬ nI j = (4 : Int32) := rx_nl (m := 4) (by omega) (by omega) (by omega)
    by_cases h : p + j < lim
    · have c1 : nI p + nI j < nI lim := by rw [e1]; exact nI_lt h (by omega)
      have v1 : vp_in (nI p + nI j) 64 := by rw [e1]; exact vp_in_nI (by omega) (by omega)
      have v2 : vp_in (nI (p + j)) 64 := vp_in_nI (by omega) (by omega)
      have t1 : inp (nI p + nI j).toNatClampNeg = inp (p + j) := by rw [e1, nI_clamp (by omega)]
      have t2 : inp (nI (p + j)).toNatClampNeg = inp (p + j) := by rw [nI_clamp (by omega)]
      have goX : ∀ (post : Int32 → SX → Prop) (A : Prop), (0 < j → ¬ inp (p + j) = 0) → A → ((nI j ≤ 0 → A) ∧ (¬ nI j ≤ 0 → ((inp (p + j) = 0 → post 6 (xic, xoc, nI N, xhf, nI fd, nI ll, xol, xea, fw_w false, nI i, xfo, nI sp, nI p, nI b, nI lim, nI us, iK, iA, iB, xM, xO, xS, FK, FA, FB, FM, inp, lst, out, vs, xR, xL)) ∧ (¬ inp (p + j) = 0 → A)))) := by
        intro post A hz hA
        by_cases hj0 : j = 0
        · exact br_t (by rw [hj0]; decide) hA
        · exact br_f (nI_nle (by omega) (by omega)) (br_f (hz (by omega)) hA)
      have goY : ∀ (post : Int32 → SY → Prop) (A : Prop) (q : Int32), (0 < j → ¬ inp (p + j) = 0) → A → ((nI j ≤ 0 → A) ∧ (¬ nI j ≤ 0 → ((inp (p + j) = 0 → post 6 (yic, nI N, nI fd, nI ll, ymd, ysa, ytk, nI dp, q, nI b, nI sp, nI us, ynx, yra, fw_r false, iK, iA, iB, FK, FA, FB, inp, lst, out, vs, yO, yN, yS, yT)) ∧ (¬ inp (p + j) = 0 → A)))) := by
        intro post A q hz hA
        by_cases hj0 : j = 0
        · exact br_t (by rw [hj0]; decide) hA
        · exact br_f (nI_nle (by omega) (by omega)) (br_f (hz (by omega)) hA)
      by_cases hz : 0 < j → ¬ inp (p + j) = 0
      · by_cases h127 : inp (p + j) ≤ 127
        · have h128 := (fv_127 _).mp h127
          refine Or.inr ⟨j + 1, x ||| ((inp (p + j) &&& 127) <<< (((7 : Int32) * nI j) &&& 31)), by omega, by omega, fun post H => br_f j5 (br_f (by decide) (br_t c1 ⟨v1, nm_r t1 (br_f j4 (goX post _ hz (nm_e (br_t h127 (nm_r (nI_1 j) (nm_r (nI_1 j) ?_))))))⟩)), fun post H => br_f j5 (rE_1 (m := 1) (w := false) E (by omega) (br_f (by decide) (nm_r (nI_1 (p + j)) ⟨v2, nm_r t2 (nm_e (br_f j4 (goY post _ _ hz (br_f h128 ?_))))⟩)))⟩
          · refine br_f j6 (br_t rfl (nm_r (nI_add p (j + 1)) ?_))
            exact rx_kr (w := false) hl hv H
          · exact ry_kp (w := false) hl hv H
        · have h128 : (128 : Int32) ≤ inp (p + j) := Decidable.byContradiction fun z => h127 ((fv_127 _).mpr z)
          rcases ih (j + 1) (x ||| ((inp (p + j) &&& 127) <<< (((7 : Int32) * nI j) &&& 31))) (by omega) (by omega) with ⟨r, q, hr, HX, HY⟩ | ⟨len, y, hl0, hlen, HX, HY⟩
          · exact Or.inl ⟨r, q, hr, fun post H => br_f j5 (br_f (by decide) (br_t c1 ⟨v1, nm_r t1 (br_f j4 (goX post _ hz (nm_e (br_f h127 (nm_r (nI_1 j) (nm_r (nI_1 j) (HX post H)))))))⟩)), fun post H => br_f j5 (rE_1 (m := 1) (w := false) E (by omega) (br_f (by decide) (nm_r (nI_1 (p + j)) ⟨v2, nm_r t2 (nm_e (br_f j4 (goY post _ _ hz (br_t h128 (nm_r (nI_1 j) (HY post H))))))⟩)))⟩
          · exact Or.inr ⟨len, y, hl0, hlen, fun post H => br_f j5 (br_f (by decide) (br_t c1 ⟨v1, nm_r t1 (br_f j4 (goX post _ hz (nm_e (br_f h127 (nm_r (nI_1 j) (nm_r (nI_1 j) (HX post H)))))))⟩)), fun post H => br_f j5 (rE_1 (m := 1) (w := false) E (by omega) (br_f (by decide) (nm_r (nI_1 (p + j)) ⟨v2, nm_r t2 (nm_e (br_f j4 (goY post _ _ hz (br_t h128 (nm_r (nI_1 j) (HY post H))))))⟩)))⟩
      · have hj0 : 0 < j := Nat.pos_of_ne_zero fun z => hz (fun y => by omega)
        have h0 : inp (p + j) = 0 := Decidable.byContradiction fun z => hz (fun _ => z)
        have jn : ¬ nI j ≤ 0 := nI_nle hj0 (by omega)
        exact Or.inl ⟨6, nI (p + j + 1), by decide, fun post H => br_f j5 (br_f (by decide) (br_t c1 ⟨v1, nm_r t1 (br_f j4 (br_f jn (br_t h0 H)))⟩)), fun post H => br_f j5 (rE_1 (m := 1) (w := false) E (by omega) (br_f (by decide) (nm_r (nI_1 (p + j)) ⟨v2, nm_r t2 (nm_e (br_f j4 (br_f jn (br_t h0 H))))⟩)))⟩
    · have c1 : ¬ nI p + nI j < nI lim := by rw [e1]; exact nI_nlt (by omega) (by omega)
      exact Or.inl ⟨3, nI (p + j), by decide, fun post H => br_f j5 (br_f (by decide) (br_f c1 H)), fun post H => br_f j5 (rE_0 (m := 1) (w := false) E (by omega) (by omega) (by omega) (br_t rfl H))⟩
theorem rf_1r (E : fr_E FK xR xL yO yN N fd lim S i dp w) (hp : p ≤ lim) (hb : b ≤ 7) (hbp : 0 < b → 0 < p) (hus : us ≤ ll) (hll : ll ≤ 40) (hw : w = false) (hl : ll < 40) : (∃ (r q : Int32), r ≠ 0 ∧ (w = true → q = nI p) ∧ (∀ post : Int32 → SX → Prop, post r (xic, xoc, nI N, xhf, nI fd, nI ll, xol, xea, fw_w w, nI i, xfo, nI sp, nI p, nI b, nI lim, nI us, iK, iA, iB, xM, xO, xS, FK, FA, FB, FM, inp, lst, out, vs, xR, xL) → wpX_doItem post (xic, xoc, nI N, xhf, nI fd, nI ll, xol, xea, fw_w w, nI i, xfo, nI sp, nI p, nI b, nI lim, nI us, iK, iA, iB, xM, xO, xS, FK, FA, FB, FM, inp, lst, out, vs, xR, xL) (nI 1) (FA i) (FB i)) ∧ (∀ post : Int32 → SY → Prop, post r (yic, nI N, nI fd, nI ll, ymd, ysa, ytk, nI dp, q, nI b, nI sp, nI us, ynx, yra, fw_r w, iK, iA, iB, FK, FA, FB, inp, lst, out, vs, yO, yN, yS, yT) → wY_item_113 post (nI i) (nI 1) yic (nI N) (nI fd) (nI ll) ymd ysa ytk (nI dp) (nI p) (nI b) (nI sp) (nI us) ynx yra (fw_r w) iK iA iB FK FA FB inp lst out vs yO yN yS yT)) ∨ (∃ (p' b' us' ll' : Nat) (lst' out' vs' : Nat → Int32), p' ≤ lim ∧ b' ≤ 7 ∧ (0 < b' → 0 < p') ∧ us' ≤ ll' ∧ ll' ≤ 40 ∧ (∀ post : Int32 → SX → Prop, post 0 (xic, xoc, nI N, xhf, nI fd, nI ll', xol, xea, fw_w w, nI i, xfo, nI sp, nI p', nI b', nI lim, nI us', iK, iA, iB, xM, xO, xS, FK, FA, FB, FM, inp, lst', out', vs', xR, xL) → wpX_doItem post (xic, xoc, nI N, xhf, nI fd, nI ll, xol, xea, fw_w w, nI i, xfo, nI sp, nI p, nI b, nI lim, nI us, iK, iA, iB, xM, xO, xS, FK, FA, FB, FM, inp, lst, out, vs, xR, xL) (nI 1) (FA i) (FB i)) ∧ (∀ post : Int32 → SY → Prop, post 0 (yic, nI N, nI fd, nI ll', ymd, ysa, ytk, nI dp, nI p', nI b', nI sp, nI us', ynx, yra, fw_r w, iK, iA, iB, FK, FA, FB, inp, lst', out', vs', yO, yN, yS, yT) → wY_item_113 post (nI i) (nI 1) yic (nI N) (nI fd) (nI ll) ymd ysa ytk (nI dp) (nI p) (nI b) (nI sp) (nI us) ynx yra (fw_r w) iK iA iB FK FA FB inp lst out vs yO yN yS yT)) := by
  obtain ⟨hi, hlim, ci, vi⟩ := rE_i E
  obtain ⟨v, hv, ev, vv, cv⟩ := rE_v (FB i)
  have ev' : FB (nI i).toNatClampNeg &&& 7 = nI v := by rw [ci]; exact ev
  subst hw
  rcases rv_lock (v := v) E hl hv 4 0 0 (by omega) (by omega) (p := p) (b := b) (us := us) (sp := sp) (xic := xic) (xoc := xoc) (xhf := xhf) (xol := xol) (xea := xea) (xfo := xfo) (xS := xS) (xM := xM) (xO := xO) (FM := FM) (yic := yic) (ymd := ymd) (ysa := ysa) (ytk := ytk) (ynx := ynx) (yra := yra) (yS := yS) (yT := yT) (iK := iK) (iA := iA) (iB := iB) (FA := FA) (FB := FB) (inp := inp) (lst := lst) (vs := vs) (out := out) with ⟨r, q, hr, HX, HY⟩ | ⟨len, y, hl0, hlen, HX, HY⟩
  · exact Or.inl ⟨r, q, hr, fun z => absurd z (by decide), fun post H => nm_r ev (br_f (by decide) (br_f (by decide) (br_f (by decide) (br_t (by decide) (br_t rfl ⟨6, HX _ H⟩))))), fun post H => ⟨vi, nm_r ev' (br_f (by decide) (br_f (by decide) ⟨vi, nm_e (br_t (by decide) ⟨6, HY _ H⟩)⟩))⟩⟩
  · exact Or.inr ⟨p + len, b, us, ll + 1, upd lst ll y, out, upd vs v y, hlen, hb, fun _ => by omega, by omega, hl, fun post H => nm_r ev (br_f (by decide) (br_f (by decide) (br_f (by decide) (br_t (by decide) (br_t rfl ⟨6, HX _ H⟩))))), fun post H => ⟨vi, nm_r ev' (br_f (by decide) (br_f (by decide) ⟨vi, nm_e (br_t (by decide) ⟨6, HY _ H⟩)⟩))⟩⟩
/-! BITS -/
theorem rx_bt {post : Int32 → Prop} {a : Nat} (ha : a ≤ 16) (hb : b ≤ 7) (H : post (nI (fq a b))) : wpX_bytesToBegin post (xic, xoc, nI N, xhf, nI fd, nI ll, xol, xea, fw_w w, nI i, xfo, nI sp, nI p, nI b, nI lim, nI us, iK, iA, iB, xM, xO, xS, FK, FA, FB, FM, inp, lst, out, vs, xR, xL) (nI a) := by
  unfold fq at H
  by_cases z : a ≤ b
  · rw [if_pos z] at H
    exact br_t (nI_le z (by omega)) H
  · rw [if_neg z] at H
    refine br_f (nI_ge (by omega) (by omega)) ?_
    have e : (nI a - nI b + 7) >>> ((3 : Int32) &&& 31) = nI ((a - b + 7) / 8) := by
      rw [pk_sub (by omega), show nI (a - b) + 7 = nI (a - b + 7) from nI_add _ 7, pk_shrN (by omega) _ 3 (by decide)]
    rw [e]
    exact H
theorem ry_wt {post : Int32 → Prop} {a : Nat} (ha : a ≤ 16) (hb : b ≤ 7) (H : post (nI (fq a b))) : wpY_wanted post (yic, nI N, nI fd, nI ll, ymd, ysa, ytk, nI dp, nI p, nI b, nI sp, nI us, ynx, yra, fw_r w, iK, iA, iB, FK, FA, FB, inp, lst, out, vs, yO, yN, yS, yT) (nI a) := by
  unfold fq at H
  by_cases z : a ≤ b
  · rw [if_pos z] at H
    exact br_t (nI_le z (by omega)) H
  · rw [if_neg z] at H
    refine br_f (nI_ge (by omega) (by omega)) ⟨by decide, ?_⟩
    have e : (nI a - nI b + 7) / (8 : Int32) = nI ((a - b + 7) / 8) := by
      rw [pk_sub (by omega), show nI (a - b) + 7 = nI (a - b + 7) from nI_add _ 7]
      exact pk_div (d := 8) (by omega) (by omega) (by omega)
    rw [e]
    exact H
theorem rb_lock {a v : Nat} (ha : a ≤ 16) (hlim : lim ≤ 64) : ∀ (d j q c : Nat) (x : Int32), j + d = a → q ≤ lim → c ≤ 7 → (0 < c → 0 < q) → d ≤ c + 8 * (lim - q) →
    ∃ (q' c' : Nat) (y : Int32), q' ≤ lim ∧ c' ≤ 7 ∧ (0 < c' → 0 < q') ∧ (∀ post : Int32 → SX → Prop, wpX_keepRead (fun u => match u with | (xic, xoc, xfc, xhf, xil, xll, xol, xea, xwr, xcu, xfo, xsp, xpo, xbl, xli, xvu, iK, iA, iB, xM, xO, xS, FK, FA, FB, FM, inp, lst, out, vs, xR, xL) => post 0 (xic, xoc, xfc, xhf, xil, xll, xol, xea, xwr, xcu, xfo, xsp, xpo, xbl, xli, xvu, iK, iA, iB, xM, xO, xS, FK, FA, FB, FM, inp, lst, out, vs, xR, xL)) (xic, xoc, nI N, xhf, nI fd, nI ll, xol, xea, fw_w w, nI i, xfo, nI sp, nI q', nI c', nI lim, nI us, iK, iA, iB, xM, xO, xS, FK, FA, FB, FM, inp, lst, out, vs, xR, xL) y (nI v) → wX_readBits_27 post (nI a) (nI v) xic xoc (nI N) xhf (nI fd) (nI ll) xol xea (fw_w w) (nI i) xfo (nI sp) (nI lim) (nI us) iK iA iB xM xO xS FK FA FB FM inp lst out vs xR xL (d + 1) x (nI j) (nI q) (nI c)) ∧ (∀ post : Int32 → SY → Prop, wpY_keep (fun r u => match u with | (yic, ysz, yfd, yls, ymd, ysa, ytk, ydp, yps, ybi, ysp, yus, ynx, yra, yrd, yK, yA, yB, zK, zA, zB, yin, ylst, yout, yvs, yO, yN, yS, yT) => post r (yic, ysz, yfd, yls, ymd, ysa, ytk, ydp, yps, ybi, ysp, yus, ynx, yra, yrd, yK, yA, yB, zK, zA, zB, yin, ylst, yout, yvs, yO, yN, yS, yT)) (yic, nI N, nI fd, nI ll, ymd, ysa, ytk, nI dp, nI q', nI c', nI sp, nI us, ynx, yra, fw_r w, iK, iA, iB, FK, FA, FB, inp, lst, out, vs, yO, yN, yS, yT) (nI v) y → wY_take_174 post (nI v) (nI a) yic (nI N) (nI fd) (nI ll) ymd ysa ytk (nI dp) (nI sp) (nI us) ynx yra (fw_r w) iK iA iB FK FA FB inp lst out vs yO yN yS yT (d + 1) x (nI j) (nI q) (nI c)) := by
  intro d
  induction d with
  | zero =>
    intro j q c x hj hq hc hcq hd
    have c1 : nI a ≤ nI j := nI_le (by omega) (by omega)
    exact ⟨q, c, x, hq, hc, hcq, fun post H => br_t c1 H, fun post H => br_t c1 H⟩
  | succ d ih =>
    intro j q c x hj hq hc hcq hd
    have c1 : ¬ nI a ≤ nI j := nI_ge (by omega) (by omega)
    by_cases h0 : c = 0
    · subst h0
      have em : nI (q + 1) - 1 = nI q := nI_pred q
      have vm : vp_in (nI (q + 1) - 1) 64 := by rw [em]; exact vp_in_nI (by omega) (by omega)
      have cm : (nI (q + 1) - 1).toNatClampNeg = q := by rw [em]; exact nI_clamp (by omega)
      obtain ⟨q', c', y, k1, k2, k3, HX, HY⟩ := ih (j + 1) (q + 1) 7 ((x <<< ((1 : Int32) &&& 31)) ||| ((inp q >>> (nI 7 &&& 31)) &&& 1)) (by omega) (by omega) (by omega) (fun _ => by omega) (by omega)
      exact ⟨q', c', y, k1, k2, k3, fun post H => br_f c1 (br_t (by decide) (nm_r (nI_1 q) (nm_r (e' := nI 7) (by decide) ⟨vm, nm_r (by rw [cm]) (nm_r (nI_1 j) (HX post H))⟩))), fun post H => br_f c1 (br_t (by decide) (nm_r (nI_1 q) (nm_r (e' := nI 7) (by decide) ⟨vm, nm_r (by rw [cm]) (nm_r (nI_1 j) (HY post H))⟩)))⟩
    · obtain ⟨c, rfl⟩ : ∃ e, c = e + 1 := ⟨c - 1, by omega⟩
      have hq0 := hcq (by omega)
      obtain ⟨q, rfl⟩ : ∃ e, q = e + 1 := ⟨q - 1, by omega⟩
      have em : nI (q + 1) - 1 = nI q := nI_pred q
      have vm : vp_in (nI (q + 1) - 1) 64 := by rw [em]; exact vp_in_nI (by omega) (by omega)
      have cm : (nI (q + 1) - 1).toNatClampNeg = q := by rw [em]; exact nI_clamp (by omega)
      have n0 : ¬ nI (c + 1) = 0 := nI_ne0 (by omega) (by omega)
      obtain ⟨q', c', y, k1, k2, k3, HX, HY⟩ := ih (j + 1) (q + 1) c ((x <<< ((1 : Int32) &&& 31)) ||| ((inp q >>> (nI c &&& 31)) &&& 1)) (by omega) (by omega) (by omega) (fun _ => by omega) (by omega)
      exact ⟨q', c', y, k1, k2, k3, fun post H => br_f c1 (br_f n0 (nm_r (nI_pred c) ⟨vm, nm_r (by rw [cm]) (nm_r (nI_1 j) (HX post H))⟩)), fun post H => br_f c1 (br_f n0 (nm_r (nI_pred c) ⟨vm, nm_r (by rw [cm]) (nm_r (nI_1 j) (HY post H))⟩))⟩
theorem rf_2r (E : fr_E FK xR xL yO yN N fd lim S i dp w) (hp : p ≤ lim) (hb : b ≤ 7) (hbp : 0 < b → 0 < p) (hus : us ≤ ll) (hll : ll ≤ 40) {a : Nat} (h1 : 1 ≤ a) (h16 : a ≤ 16) (ha : FA i = nI a) (hw : w = false) (hl : ll < 40) : (∃ (r q : Int32), r ≠ 0 ∧ (w = true → q = nI p) ∧ (∀ post : Int32 → SX → Prop, post r (xic, xoc, nI N, xhf, nI fd, nI ll, xol, xea, fw_w w, nI i, xfo, nI sp, nI p, nI b, nI lim, nI us, iK, iA, iB, xM, xO, xS, FK, FA, FB, FM, inp, lst, out, vs, xR, xL) → wpX_doItem post (xic, xoc, nI N, xhf, nI fd, nI ll, xol, xea, fw_w w, nI i, xfo, nI sp, nI p, nI b, nI lim, nI us, iK, iA, iB, xM, xO, xS, FK, FA, FB, FM, inp, lst, out, vs, xR, xL) (nI 2) (FA i) (FB i)) ∧ (∀ post : Int32 → SY → Prop, post r (yic, nI N, nI fd, nI ll, ymd, ysa, ytk, nI dp, q, nI b, nI sp, nI us, ynx, yra, fw_r w, iK, iA, iB, FK, FA, FB, inp, lst, out, vs, yO, yN, yS, yT) → wY_item_113 post (nI i) (nI 2) yic (nI N) (nI fd) (nI ll) ymd ysa ytk (nI dp) (nI p) (nI b) (nI sp) (nI us) ynx yra (fw_r w) iK iA iB FK FA FB inp lst out vs yO yN yS yT)) ∨ (∃ (p' b' us' ll' : Nat) (lst' out' vs' : Nat → Int32), p' ≤ lim ∧ b' ≤ 7 ∧ (0 < b' → 0 < p') ∧ us' ≤ ll' ∧ ll' ≤ 40 ∧ (∀ post : Int32 → SX → Prop, post 0 (xic, xoc, nI N, xhf, nI fd, nI ll', xol, xea, fw_w w, nI i, xfo, nI sp, nI p', nI b', nI lim, nI us', iK, iA, iB, xM, xO, xS, FK, FA, FB, FM, inp, lst', out', vs', xR, xL) → wpX_doItem post (xic, xoc, nI N, xhf, nI fd, nI ll, xol, xea, fw_w w, nI i, xfo, nI sp, nI p, nI b, nI lim, nI us, iK, iA, iB, xM, xO, xS, FK, FA, FB, FM, inp, lst, out, vs, xR, xL) (nI 2) (FA i) (FB i)) ∧ (∀ post : Int32 → SY → Prop, post 0 (yic, nI N, nI fd, nI ll', ymd, ysa, ytk, nI dp, nI p', nI b', nI sp, nI us', ynx, yra, fw_r w, iK, iA, iB, FK, FA, FB, inp, lst', out', vs', yO, yN, yS, yT) → wY_item_113 post (nI i) (nI 2) yic (nI N) (nI fd) (nI ll) ymd ysa ytk (nI dp) (nI p) (nI b) (nI sp) (nI us) ynx yra (fw_r w) iK iA iB FK FA FB inp lst out vs yO yN yS yT)) := by
  obtain ⟨hi, hlim, ci, vi⟩ := rE_i E
  obtain ⟨v, hv, ev, vv, cv⟩ := rE_v (FB i)
  have ev' : FB (nI i).toNatClampNeg &&& 7 = nI v := by rw [ci]; exact ev
  have ea : FA (nI i).toNatClampNeg = nI a := by rw [ci]; exact ha
  have esub : nI lim - nI p = nI (lim - p) := pk_sub hp
  have f16 := fq_lt (b := b) h16
  subst hw
  by_cases h : fq a b ≤ lim - p
  · have cX : nI (fq a b) ≤ nI lim - nI p := by rw [esub]; exact nI_le h (by omega)
    obtain ⟨q', c', y, k1, k2, k3, HX, HY⟩ := rb_lock (v := v) h16 hlim a 0 p b 0 (by omega) hp hb hbp (fq_le h) (w := false) (i := i) (N := N) (fd := fd) (ll := ll) (us := us) (sp := sp) (dp := dp) (xic := xic) (xoc := xoc) (xhf := xhf) (xol := xol) (xea := xea) (xfo := xfo) (xS := xS) (xM := xM) (xO := xO) (FK := FK) (FM := FM) (xR := xR) (xL := xL) (yic := yic) (ymd := ymd) (ysa := ysa) (ytk := ytk) (ynx := ynx) (yra := yra) (yO := yO) (yN := yN) (yS := yS) (yT := yT) (iK := iK) (iA := iA) (iB := iB) (FA := FA) (FB := FB) (inp := inp) (lst := lst) (vs := vs) (out := out)
    refine Or.inr ⟨q', c', us, ll + 1, upd lst ll y, out, upd vs v y, k1, k2, k3, by omega, hl, fun post H => ?_, fun post H => ?_⟩
    · rw [ha]
      refine nm_r ev (br_f (by decide) (br_f (by decide) (br_f (by decide) (br_f (by decide) (br_t (by decide) (br_t rfl ?_))))))
      unfold wpX_readBits
      exact rx_bt (w := false) h16 hb (br_t cX ⟨a + 1, HX _ (rx_kr (w := false) hl hv H)⟩)
    · refine ⟨vi, nm_r ev' (br_f (by decide) (br_f (by decide) ⟨vi, nm_r ea (br_f (by decide) (br_f (by decide) (ry_wt (w := false) h16 hb ?_)))⟩))⟩
      exact rE_1 (w := false) E (by omega) (br_f (by decide) (br_f (by decide) ⟨a + 1, HY _ (ry_kp (w := false) hl hv H)⟩))
  · have cX : ¬ nI (fq a b) ≤ nI lim - nI p := by rw [esub]; exact nI_ge (by omega) (by omega)
    refine Or.inl ⟨3, nI p, by decide, fun _ => rfl, fun post H => ?_, fun post H => ⟨vi, nm_r ev' (br_f (by decide) (br_f (by decide) ⟨vi, nm_r ea (br_f (by decide) (br_f (by decide) (ry_wt (w := false) h16 hb ?_)))⟩))⟩⟩
    · rw [ha]
      refine nm_r ev (br_f (by decide) (br_f (by decide) (br_f (by decide) (br_f (by decide) (br_t (by decide) (br_t rfl ?_))))))
      unfold wpX_readBits
      exact rx_bt (w := false) h16 hb (br_f cX H)
    · exact rE_0 (w := false) E hp (by omega) (by omega) (br_t rfl H)
end
end
section
/-! the numbers that a write gives: INT, VAR, BITS -/
def fo (B out : Nat → Int32) (lo hi : Nat) : Nat → Int32 := fun t => if lo ≤ t ∧ t < hi then B t else out t
theorem fo_0 (B out : Nat → Int32) (lo : Nat) : fo B out lo lo = out := funext fun t => if_neg (by omega)
theorem fo_s (B out : Nat → Int32) {lo hi : Nat} (h : lo ≤ hi) : upd (fo B out lo hi) hi (B hi) = fo B out lo (hi + 1) := funext fun t => by
  unfold upd fo
  by_cases e : t = hi
  · subst e
    rw [if_pos rfl, if_pos (by omega)]
  · rw [if_neg e]
    by_cases z : lo ≤ t ∧ t < hi
    · rw [if_pos z, if_pos (by omega)]
    · rw [if_neg z, if_neg (by omega)]
theorem fo_p (B out : Nat → Int32) {lo hi : Nat} (h : lo < hi) : upd (fo B out (lo + 1) hi) lo (B lo) = fo B out lo hi := funext fun t => by
  unfold upd fo
  by_cases e : t = lo
  · subst e
    rw [if_pos rfl, if_pos (by omega)]
  · rw [if_neg e]
    by_cases z : lo + 1 ≤ t ∧ t < hi
    · rw [if_pos z, if_pos (by omega)]
    · rw [if_neg z, if_neg (by omega)]
def fi_U (x : Int32) (l : Nat) : Int32 := (x.toUInt32 >>> ((nI (7 * l)).toUInt32 &&& Int32.toUInt32 31)).toInt32
def fi_Z (x : Int32) (l : Nat) : Int32 := if l < 5 then fi_U x l else 0
theorem fi_g (x : Int32) : ∃ g : Nat, 1 ≤ g ∧ g ≤ 5 ∧ (∀ l, 1 ≤ l → l < g → ¬ fi_U x l = 0) ∧ (g < 5 → fi_U x g = 0) := by
  by_cases h1 : fi_U x 1 = 0
  · exact ⟨1, by omega, by omega, fun l a b => by omega, fun _ => h1⟩
  · by_cases h2 : fi_U x 2 = 0
    · exact ⟨2, by omega, by omega, fun l a b => by have : l = 1 := by omega
                                                    subst this; exact h1, fun _ => h2⟩
    · by_cases h3 : fi_U x 3 = 0
      · exact ⟨3, by omega, by omega, fun l a b => by
          have : l = 1 ∨ l = 2 := by omega
          rcases this with rfl | rfl
          · exact h1
          · exact h2, fun _ => h3⟩
      · by_cases h4 : fi_U x 4 = 0
        · exact ⟨4, by omega, by omega, fun l a b => by
            have : l = 1 ∨ l = 2 ∨ l = 3 := by omega
            rcases this with rfl | rfl | rfl
            · exact h1
            · exact h2
            · exact h3, fun _ => h4⟩
        · exact ⟨5, by omega, by omega, fun l a b => by
            have : l = 1 ∨ l = 2 ∨ l = 3 ∨ l = 4 := by omega
            rcases this with rfl | rfl | rfl | rfl
            · exact h1
            · exact h2
            · exact h3
            · exact h4, fun z => by omega⟩
theorem fi_Zs (x : Int32) {l : Nat} (hl : l < 5) : ((fi_Z x l).toUInt32 >>> ((7 : Int32).toUInt32 &&& Int32.toUInt32 31)).toInt32 = fi_Z x (l + 1) := by
  unfold fi_Z
  rw [if_pos hl]
  unfold fi_U
  by_cases z : l + 1 < 5
  · rw [if_pos z]
    exact (fb_ushrushr (m := 7 * l) (n := 7) (by omega) x)
  · rw [if_neg z]
    exact fb_ushr35 (m := 7 * l) (n := 7) (by omega) (by omega) (by omega) x
def fi_ok (a : Nat) (fl x : Int32) : Prop := a = 4 ∨ (a < 4 ∧ (((fl &&& 16) = 0 ∧ (x >>> (nI (8 * a) &&& 31)) = 0) ∨ (¬ (fl &&& 16) = 0 ∧ ((x >>> (nI (8 * a - 1) &&& 31)) = 0 ∨ (x >>> (nI (8 * a - 1) &&& 31)) = -1))))
section
variable {xic xoc xfc xhf xil xll xol xea xwr xcu xfo xsp xpo xbl xli xvu yic ysz yfd yls ymd ysa ytk ydp yps ybi ysp yus ynx yra yrd : Int32} {iK iA iB xM xO xS FK FA FB FM inp lst out vs xR xL yO yN yS yT : Nat → Int32}
variable {N fd ll i sp p b lim us dp base S : Nat} {w : Bool}
theorem rx_kw {post : SX → Prop} {v : Nat} {x : Int32} (hv : v < 8) (H : post (xic, xoc, nI N, xhf, nI fd, nI ll, xol, xea, fw_w w, nI i, xfo, nI sp, nI p, nI b, nI lim, nI (us + 1), iK, iA, iB, xM, xO, xS, FK, FA, FB, FM, inp, lst, out, upd vs v x, xR, xL)) : wpX_keepWritten post (xic, xoc, nI N, xhf, nI fd, nI ll, xol, xea, fw_w w, nI i, xfo, nI sp, nI p, nI b, nI lim, nI us, iK, iA, iB, xM, xO, xS, FK, FA, FB, FM, inp, lst, out, vs, xR, xL) x (nI v) := by
  have cv : (nI v).toNatClampNeg = v := nI_clamp (by omega)
  exact nm_r (nI_1 us) ⟨vp_in_nI hv (by omega), nm_r (by rw [cv]) H⟩
theorem ri_e {a : Nat} (h1 : 1 ≤ a) (h4 : a < 4) (x : Int32) : ((x <<< ((32 - (8 * nI a)) &&& 31)) >>> ((32 - (8 * nI a)) &&& 31)) = x ↔ (x >>> (nI (8 * a - 1) &&& 31)) = 0 ∨ (x >>> (nI (8 * a - 1) &&& 31)) = -1 := by
  have e : (32 : Int32) - (8 * nI a) = nI (32 - 8 * a) := by
    rw [show (8 : Int32) * nI a = nI (8 * a) from pk_mul 8 a]
    exact pk_sub (a := 32) (by omega)
  rw [e]
  exact fb_ext x (by omega)
theorem rx_fit1 {post : Int32 → Prop} {a : Nat} {fl x : Int32} (h1 : 1 ≤ a) (h : fi_ok a fl x) (H : post 1) : wpX_fitsInBytes post (xic, xoc, nI N, xhf, nI fd, nI ll, xol, xea, fw_w w, nI i, xfo, nI sp, nI p, nI b, nI lim, nI us, iK, iA, iB, xM, xO, xS, FK, FA, FB, FM, inp, lst, out, vs, xR, xL) x (nI a) fl := by
  have e8 : (8 : Int32) * nI a = nI (8 * a) := pk_mul 8 a
  rcases h with h | ⟨h4, h⟩
  · subst h
    exact br_f (by decide) H
  · refine br_t (nI_lt (b := 4) h4 (by decide)) ?_
    rcases h with ⟨z, h⟩ | ⟨z, h⟩
    · refine br_t z (br_t ?_ H)
      rw [e8]
      exact (fb_fit x (by omega)).mpr h
    · refine br_f z ?_
      exact nm_e (br_t ((ri_e h1 h4 x).mpr h) H)
theorem rx_fit0 {post : Int32 → Prop} {a : Nat} {fl x : Int32} (h1 : 1 ≤ a) (h4 : a ≤ 4) (h : ¬ fi_ok a fl x) (H : post 0) : wpX_fitsInBytes post (xic, xoc, nI N, xhf, nI fd, nI ll, xol, xea, fw_w w, nI i, xfo, nI sp, nI p, nI b, nI lim, nI us, iK, iA, iB, xM, xO, xS, FK, FA, FB, FM, inp, lst, out, vs, xR, xL) x (nI a) fl := by
  have e8 : (8 : Int32) * nI a = nI (8 * a) := pk_mul 8 a
  have h4' : a < 4 := by
    rcases Nat.lt_or_ge a 4 with z | z
    · exact z
    · exact absurd (Or.inl (by omega)) h
  refine br_t (nI_lt (b := 4) h4' (by decide)) ?_
  by_cases z : (fl &&& 16) = 0
  · refine br_t z (br_f ?_ H)
    rw [e8]
    intro y
    exact h (Or.inr ⟨h4', Or.inl ⟨z, (fb_fit x (by omega)).mp y⟩⟩)
  · refine br_f z ?_
    exact nm_e (br_f (fun y => h (Or.inr ⟨h4', Or.inr ⟨z, (ri_e h1 h4' x).mp y⟩⟩)) H)
theorem ry_fit1 {post : Int32 → SY → Prop} {a v : Nat} {x : Int32} (hi : i < 40) (h1 : 1 ≤ a) (h : fi_ok a (FB i) x) (H : wY_give_120 post (nI 0) (nI i) (nI v) x (nI a) yic (nI N) (nI fd) (nI ll) ymd ysa ytk (nI dp) (nI p) (nI b) (nI sp) (nI us) ynx yra (fw_r w) iK iA iB FK FA FB inp lst out vs yO yN yS yT) : wY_give_46 post (nI 0) (nI i) (nI v) x (nI a) (8 * nI a) yic (nI N) (nI fd) (nI ll) ymd ysa ytk (nI dp) (nI p) (nI b) (nI sp) (nI us) ynx yra (fw_r w) iK iA iB FK FA FB inp lst out vs yO yN yS yT := by
  have ci : (nI i).toNatClampNeg = i := nI_clamp (by omega)
  have vi : vp_in (nI i) 40 := vp_in_nI hi (by omega)
  have e8 : (8 : Int32) * nI a = nI (8 * a) := pk_mul 8 a
  refine br_t (by decide) ⟨vi, ?_⟩
  rw [ci, e8]
  rcases h with h | ⟨h4, h⟩
  · subst h
    by_cases z : (FB i &&& 16) = 0
    · exact br_t z (br_f (by decide) (br_t (by decide) H))
    · exact br_f z (br_f (by decide) (br_t (by decide) H))
  · have n32 : ¬ nI (8 * a) = (32 : Int32) := fun z => by
      have := (nI_eq (a := 8 * a) (b := 32) (by omega) (by omega)).mp z
      omega
    have em : nI (8 * a) - 1 = nI (8 * a - 1) := pk_sub (b := 1) (by omega)
    rcases h with ⟨z, h⟩ | ⟨z, h⟩
    · exact br_t z (br_f (by decide) (br_f n32 (br_t rfl (br_t h H))))
    · refine br_f z (br_f (by decide) (br_f n32 (br_f (by decide) ?_)))
      rw [em]
      by_cases y : (x >>> (nI (8 * a - 1) &&& 31)) = 0
      · exact br_t y H
      · exact br_f y (br_t (h.resolve_left y) H)
theorem ry_fit0 {post : Int32 → SY → Prop} {a v : Nat} {x : Int32} (hi : i < 40) (h1 : 1 ≤ a) (h4 : a ≤ 4) (h : ¬ fi_ok a (FB i) x) (H : post 4 (yic, nI N, nI fd, nI ll, ymd, ysa, ytk, nI dp, nI p, nI b, nI sp, nI us, ynx, yra, fw_r w, iK, iA, iB, FK, FA, FB, inp, lst, out, vs, yO, yN, yS, yT)) : wY_give_46 post (nI 0) (nI i) (nI v) x (nI a) (8 * nI a) yic (nI N) (nI fd) (nI ll) ymd ysa ytk (nI dp) (nI p) (nI b) (nI sp) (nI us) ynx yra (fw_r w) iK iA iB FK FA FB inp lst out vs yO yN yS yT := by
  have ci : (nI i).toNatClampNeg = i := nI_clamp (by omega)
  have vi : vp_in (nI i) 40 := vp_in_nI hi (by omega)
  have e8 : (8 : Int32) * nI a = nI (8 * a) := pk_mul 8 a
  have h4' : a < 4 := by
    rcases Nat.lt_or_ge a 4 with z | z
    · exact z
    · exact absurd (Or.inl (by omega)) h
  have n32 : ¬ nI (8 * a) = (32 : Int32) := fun z => by
    have := (nI_eq (a := 8 * a) (b := 32) (by omega) (by omega)).mp z
    omega
  have em : nI (8 * a) - 1 = nI (8 * a - 1) := pk_sub (b := 1) (by omega)
  refine br_t (by decide) ⟨vi, ?_⟩
  rw [ci, e8]
  by_cases z : (FB i &&& 16) = 0
  · exact br_t z (br_f (by decide) (br_f n32 (br_t rfl (br_f (fun y => h (Or.inr ⟨h4', Or.inl ⟨z, y⟩⟩)) (br_t rfl H)))))
  · refine br_f z (br_f (by decide) (br_f n32 (br_f (by decide) ?_)))
    rw [em]
    exact br_f (fun y => h (Or.inr ⟨h4', Or.inr ⟨z, Or.inl y⟩⟩)) (br_f (fun y => h (Or.inr ⟨h4', Or.inr ⟨z, Or.inr y⟩⟩)) (br_t rfl H))
/-- the groups counted -/
theorem ry_144 {post : Int32 → SY → Prop} {x1 x2 x3 x5 x : Int32} {g : Nat} (h5 : g ≤ 5) (hlt : ∀ l, 1 ≤ l → l < g → ¬ fi_U x l = 0) (hg : g < 5 → fi_U x g = 0) (H : (x1 = 0 → wY_give_188 post x1 x2 x3 x x5 (nI g) x5 yic (nI N) (nI fd) (nI ll) ymd ysa ytk (nI dp) (nI p) (nI b) (nI sp) (nI us) ynx yra (fw_r w) iK iA iB FK FA FB inp lst out vs yO yN yS yT) ∧ (¬ x1 = 0 → ((x1 = 1 → wY_give_188 post x1 x2 x3 x x5 (nI g) (nI g) yic (nI N) (nI fd) (nI ll) ymd ysa ytk (nI dp) (nI p) (nI b) (nI sp) (nI us) ynx yra (fw_r w) iK iA iB FK FA FB inp lst out vs yO yN yS yT) ∧ (¬ x1 = 1 → wpY_wanted (fun r_14 => wY_give_188 post x1 x2 x3 x x5 (nI g) r_14 yic (nI N) (nI fd) (nI ll) ymd ysa ytk (nI dp) (nI p) (nI b) (nI sp) (nI us) ynx yra (fw_r w) iK iA iB FK FA FB inp lst out vs yO yN yS yT) (yic, nI N, nI fd, nI ll, ymd, ysa, ytk, nI dp, nI p, nI b, nI sp, nI us, ynx, yra, fw_r w, iK, iA, iB, FK, FA, FB, inp, lst, out, vs, yO, yN, yS, yT) x5)))) : ∀ d l : Nat, 1 ≤ l → l + d = g → wY_give_144 post x1 x2 x3 x x5 yic (nI N) (nI fd) (nI ll) ymd ysa ytk (nI dp) (nI p) (nI b) (nI sp) (nI us) ynx yra (fw_r w) iK iA iB FK FA FB inp lst out vs yO yN yS yT (d + 1) (nI l) (fi_Z x l) := by
  intro d
  induction d with
  | zero =>
    intro l h1 hl
    have e : l = g := by omega
    rw [e]
    refine br_t ?_ H
    unfold fi_Z
    by_cases z : g < 5
    · rw [if_pos z]; exact hg z
    · rw [if_neg z]
  | succ d ih =>
    intro l h1 hl
    have n0 : ¬ fi_Z x l = 0 := by
      unfold fi_Z
      rw [if_pos (by omega)]
      exact hlt l h1 (by omega)
    exact br_f n0 (nm_r (nI_1 l) (nm_r (fi_Zs x (by omega)) (ih (l + 1) (by omega) (by omega))))
theorem ry_120 {post : Int32 → SY → Prop} {x1 x2 x3 x5 x : Int32} {g : Nat} (h1 : 1 ≤ g) (h5 : g ≤ 5) (hlt : ∀ l, 1 ≤ l → l < g → ¬ fi_U x l = 0) (hg : g < 5 → fi_U x g = 0) (H : (x1 = 0 → wY_give_188 post x1 x2 x3 x x5 (nI g) x5 yic (nI N) (nI fd) (nI ll) ymd ysa ytk (nI dp) (nI p) (nI b) (nI sp) (nI us) ynx yra (fw_r w) iK iA iB FK FA FB inp lst out vs yO yN yS yT) ∧ (¬ x1 = 0 → ((x1 = 1 → wY_give_188 post x1 x2 x3 x x5 (nI g) (nI g) yic (nI N) (nI fd) (nI ll) ymd ysa ytk (nI dp) (nI p) (nI b) (nI sp) (nI us) ynx yra (fw_r w) iK iA iB FK FA FB inp lst out vs yO yN yS yT) ∧ (¬ x1 = 1 → wpY_wanted (fun r_14 => wY_give_188 post x1 x2 x3 x x5 (nI g) r_14 yic (nI N) (nI fd) (nI ll) ymd ysa ytk (nI dp) (nI p) (nI b) (nI sp) (nI us) ynx yra (fw_r w) iK iA iB FK FA FB inp lst out vs yO yN yS yT) (yic, nI N, nI fd, nI ll, ymd, ysa, ytk, nI dp, nI p, nI b, nI sp, nI us, ynx, yra, fw_r w, iK, iA, iB, FK, FA, FB, inp, lst, out, vs, yO, yN, yS, yT) x5)))) : wY_give_120 post x1 x2 x3 x x5 yic (nI N) (nI fd) (nI ll) ymd ysa ytk (nI dp) (nI p) (nI b) (nI sp) (nI us) ynx yra (fw_r w) iK iA iB FK FA FB inp lst out vs yO yN yS yT :=
  br_f (by decide) (nm_e ⟨g - 1 + 1, ry_144 h5 hlt hg H (g - 1) 1 (by omega) (by omega)⟩)
/-- INT: the bytes -/
theorem rw_X {post : Int32 → SX → Prop} {a : Nat} {fl x : Int32} {B out0 : Nat → Int32} (h1 : 1 ≤ a) (h4 : a ≤ 4) (hpa : p + a ≤ 64) (hB0 : (fl &&& 8) = 0 → ∀ j, j < a → B (p + (a - 1 - j)) = (x >>> (nI (8 * j) &&& 31)) &&& 255) (hB1 : ¬ (fl &&& 8) = 0 → ∀ j, j < a → B (p + j) = (x >>> (nI (8 * j) &&& 31)) &&& 255) (H : wpX_keepWritten (fun u => match u with | (xic, xoc, xfc, xhf, xil, xll, xol, xea, xwr, xcu, xfo, xsp, xpo, xbl, xli, xvu, iK, iA, iB, xM, xO, xS, FK, FA, FB, FM, inp, lst, out, vs, xR, xL) => post 0 (xic, xoc, xfc, xhf, xil, xll, xol, xea, xwr, xcu, xfo, xsp, xpo, xbl, xli, xvu, iK, iA, iB, xM, xO, xS, FK, FA, FB, FM, inp, lst, out, vs, xR, xL)) (xic, xoc, nI N, xhf, nI fd, nI ll, xol, xea, fw_w w, nI i, xfo, nI sp, nI (p + a), nI b, nI lim, nI us, iK, iA, iB, xM, xO, xS, FK, FA, FB, FM, inp, lst, fo B out0 p (p + a), vs, xR, xL) x (fl &&& 7)) : ∀ (d j : Nat) (out : Nat → Int32), j + d = a → ((fl &&& 8) = 0 → out = fo B out0 (p + (a - j)) (p + a)) → (¬ (fl &&& 8) = 0 → out = fo B out0 p (p + j)) → wX_writeInt_40 post (nI a) fl x xic xoc (nI N) xhf (nI fd) (nI ll) xol xea (fw_w w) (nI i) xfo (nI sp) (nI p) (nI b) (nI lim) (nI us) (d + 1) (nI j) iK iA iB xM xO xS FK FA FB FM inp lst out vs xR xL := by
  intro d
  induction d with
  | zero =>
    intro j out hj g0 g1
    have e : j = a := by omega
    have eo : out = fo B out0 p (p + a) := by
      by_cases z : (fl &&& 8) = 0
      · rw [g0 z, show p + (a - j) = p by omega]
      · rw [g1 z, e]
    rw [eo]
    exact br_t (nI_le (by omega) (by omega)) (nm_r (nI_add p a) H)
  | succ d ih =>
    intro j out hj g0 g1
    have e8 : (8 : Int32) * nI j = nI (8 * j) := pk_mul 8 j
    refine br_f (nI_ge (by omega) (by omega)) ?_
    by_cases z : (fl &&& 8) = 0
    · have e0 : (nI a - 1) - nI j = nI (a - 1 - j) := by
        have : nI a - 1 = nI (a - 1) := pk_sub (b := 1) (by omega)
        rw [this, pk_sub (by omega)]
      have e1 : nI p + ((nI a - 1) - nI j) = nI (p + (a - 1 - j)) := by rw [e0, nI_add]
      have v1 : vp_in (nI p + ((nI a - 1) - nI j)) 64 := by rw [e1]; exact vp_in_nI (by omega) (by omega)
      have c1 : (nI p + ((nI a - 1) - nI j)).toNatClampNeg = p + (a - 1 - j) := by rw [e1]; exact nI_clamp (by omega)
      refine br_t z ⟨v1, nm_r (e' := fo B out0 (p + (a - (j + 1))) (p + a)) ?_ (nm_r (nI_1 j) (ih (j + 1) _ (by omega) (fun _ => rfl) (fun y => absurd z y)))⟩
      rw [c1, e8, ← fb_byte x (by omega), ← hB0 z j (by omega), g0 z, show p + (a - j) = p + (a - 1 - j) + 1 by omega, fo_p _ _ (by omega), show p + (a - (j + 1)) = p + (a - 1 - j) by omega]
    · have e1 : nI p + nI j = nI (p + j) := nI_add p j
      have v1 : vp_in (nI p + nI j) 64 := by rw [e1]; exact vp_in_nI (by omega) (by omega)
      have c1 : (nI p + nI j).toNatClampNeg = p + j := by rw [e1]; exact nI_clamp (by omega)
      refine br_f z ⟨v1, nm_r (e' := fo B out0 p (p + (j + 1))) ?_ (nm_r (nI_1 j) (ih (j + 1) _ (by omega) (fun y => absurd y z) (fun _ => rfl)))⟩
      rw [c1, e8, ← fb_byte x (by omega), ← hB1 z j (by omega), g1 z, fo_s _ _ (by omega), Nat.add_assoc]
theorem rw_Y {post : Int32 → SY → Prop} {a : Nat} {x x10 : Int32} {B out0 : Nat → Int32} (h1 : 1 ≤ a) (h4 : a ≤ 4) (hpa : p + a ≤ 64) (hB0 : x10 = 0 → ∀ j, j < a → B (p + j) = (x >>> (nI (8 * (a - 1 - j)) &&& 31)) &&& 255) (hB1 : ¬ x10 = 0 → ∀ j, j < a → B (p + j) = (x >>> (nI (8 * j) &&& 31)) &&& 255) (H : post 0 (yic, nI N, nI fd, nI ll, ymd, ysa, ytk, nI dp, nI (p + a), nI b, nI sp, nI us, ynx, yra, fw_r w, iK, iA, iB, FK, FA, FB, inp, lst, fo B out0 p (p + a), vs, yO, yN, yS, yT)) : ∀ (d j : Nat), j + d = a → wY_give_240 post x (nI a) x10 yic (nI N) (nI fd) (nI ll) ymd ysa ytk (nI dp) (nI b) (nI sp) (nI us) ynx yra (fw_r w) (d + 1) (nI j) (nI (p + j)) iK iA iB FK FA FB inp lst (fo B out0 p (p + j)) vs yO yN yS yT := by
  intro d
  induction d with
  | zero =>
    intro j hj
    have e : j = a := by omega
    rw [e]
    exact br_t (nI_le (by omega) (by omega)) H
  | succ d ih =>
    intro j hj
    have v1 : vp_in (nI (p + j)) 64 := vp_in_nI (by omega) (by omega)
    have c1 : (nI (p + j)).toNatClampNeg = p + j := nI_clamp (by omega)
    refine br_f (nI_ge (by omega) (by omega)) (nm_r (nI_1 (p + j)) ?_)
    by_cases z : x10 = 0
    · have e0 : (8 : Int32) * ((nI a - 1) - nI j) = nI (8 * (a - 1 - j)) := by
        have : nI a - 1 = nI (a - 1) := pk_sub (b := 1) (by omega)
        rw [this, pk_sub (by omega)]
        exact pk_mul 8 _
      refine br_t z ⟨v1, nm_r (e' := fo B out0 p (p + (j + 1))) ?_ (nm_r (nI_1 j) (ih (j + 1) (by omega)))⟩
      rw [c1, e0, ← hB0 z j (by omega), fo_s _ _ (by omega), Nat.add_assoc]
    · have e0 : (8 : Int32) * nI j = nI (8 * j) := pk_mul 8 j
      refine br_f z ⟨v1, nm_r (e' := fo B out0 p (p + (j + 1))) ?_ (nm_r (nI_1 j) (ih (j + 1) (by omega)))⟩
      rw [c1, e0, ← hB1 z j (by omega), fo_s _ _ (by omega), Nat.add_assoc]
theorem rf_0w (E : fr_E FK xR xL yO yN N fd lim S i dp w) (hp : p ≤ lim) (hb : b ≤ 7) (hbp : 0 < b → 0 < p) (hus : us ≤ ll) (hll : ll ≤ 40) {a : Nat} (h1 : 1 ≤ a) (h4 : a ≤ 4) (ha : FA i = nI a) (hw : w = true) (hu : us < ll) : (∃ (r q : Int32), r ≠ 0 ∧ (w = true → q = nI p) ∧ (∀ post : Int32 → SX → Prop, post r (xic, xoc, nI N, xhf, nI fd, nI ll, xol, xea, fw_w w, nI i, xfo, nI sp, nI p, nI b, nI lim, nI us, iK, iA, iB, xM, xO, xS, FK, FA, FB, FM, inp, lst, out, vs, xR, xL) → wpX_doItem post (xic, xoc, nI N, xhf, nI fd, nI ll, xol, xea, fw_w w, nI i, xfo, nI sp, nI p, nI b, nI lim, nI us, iK, iA, iB, xM, xO, xS, FK, FA, FB, FM, inp, lst, out, vs, xR, xL) (nI 0) (FA i) (FB i)) ∧ (∀ post : Int32 → SY → Prop, post r (yic, nI N, nI fd, nI ll, ymd, ysa, ytk, nI dp, q, nI b, nI sp, nI us, ynx, yra, fw_r w, iK, iA, iB, FK, FA, FB, inp, lst, out, vs, yO, yN, yS, yT) → wY_item_113 post (nI i) (nI 0) yic (nI N) (nI fd) (nI ll) ymd ysa ytk (nI dp) (nI p) (nI b) (nI sp) (nI us) ynx yra (fw_r w) iK iA iB FK FA FB inp lst out vs yO yN yS yT)) ∨ (∃ (p' b' us' ll' : Nat) (lst' out' vs' : Nat → Int32), p' ≤ lim ∧ b' ≤ 7 ∧ (0 < b' → 0 < p') ∧ us' ≤ ll' ∧ ll' ≤ 40 ∧ (∀ post : Int32 → SX → Prop, post 0 (xic, xoc, nI N, xhf, nI fd, nI ll', xol, xea, fw_w w, nI i, xfo, nI sp, nI p', nI b', nI lim, nI us', iK, iA, iB, xM, xO, xS, FK, FA, FB, FM, inp, lst', out', vs', xR, xL) → wpX_doItem post (xic, xoc, nI N, xhf, nI fd, nI ll, xol, xea, fw_w w, nI i, xfo, nI sp, nI p, nI b, nI lim, nI us, iK, iA, iB, xM, xO, xS, FK, FA, FB, FM, inp, lst, out, vs, xR, xL) (nI 0) (FA i) (FB i)) ∧ (∀ post : Int32 → SY → Prop, post 0 (yic, nI N, nI fd, nI ll', ymd, ysa, ytk, nI dp, nI p', nI b', nI sp, nI us', ynx, yra, fw_r w, iK, iA, iB, FK, FA, FB, inp, lst', out', vs', yO, yN, yS, yT) → wY_item_113 post (nI i) (nI 0) yic (nI N) (nI fd) (nI ll) ymd ysa ytk (nI dp) (nI p) (nI b) (nI sp) (nI us) ynx yra (fw_r w) iK iA iB FK FA FB inp lst out vs yO yN yS yT)) := by
  obtain ⟨hi, hlim, ci, vi⟩ := rE_i E
  obtain ⟨v, hv, ev, vv, cv⟩ := rE_v (FB i)
  have ev' : FB (nI i).toNatClampNeg &&& 7 = nI v := by rw [ci]; exact ev
  have eb : FB (nI i).toNatClampNeg = FB i := by rw [ci]
  have ea : FA (nI i).toNatClampNeg = nI a := by rw [ci]; exact ha
  have esub : nI lim - nI p = nI (lim - p) := pk_sub hp
  have vu : vp_in (nI us) 40 := vp_in_nI (by omega) (by omega)
  have eu : lst (nI us).toNatClampNeg = lst us := by rw [nI_clamp (by omega)]
  have nu : ¬ nI us = nI ll := fun z => by
    have := (nI_eq (by omega) (by omega)).mp z
    omega
  subst hw
  have HXin : ∀ post : Int32 → SX → Prop, wpX_fitsInBytes (fun r_3 => (r_3 = 0 → post 4 (xic, xoc, nI N, xhf, nI fd, nI ll, xol, xea, fw_w true, nI i, xfo, nI sp, nI p, nI b, nI lim, nI us, iK, iA, iB, xM, xO, xS, FK, FA, FB, FM, inp, lst, out, vs, xR, xL)) ∧ (¬ r_3 = 0 → ((nI a ≤ (nI lim - nI p) → ∃ n40 : Nat, wX_writeInt_40 (fun r u => match u with | (xic, xoc, xfc, xhf, xil, xll, xol, xea, xwr, xcu, xfo, xsp, xpo, xbl, xli, xvu, iK, iA, iB, xM, xO, xS, FK, FA, FB, FM, inp, lst, out, vs, xR, xL) => post r (xic, xoc, xfc, xhf, xil, xll, xol, xea, xwr, xcu, xfo, xsp, xpo, xbl, xli, xvu, iK, iA, iB, xM, xO, xS, FK, FA, FB, FM, inp, lst, out, vs, xR, xL)) (nI a) (FB i) (lst us) xic xoc (nI N) xhf (nI fd) (nI ll) xol xea (fw_w true) (nI i) xfo (nI sp) (nI p) (nI b) (nI lim) (nI us) n40 0 iK iA iB xM xO xS FK FA FB FM inp lst out vs xR xL) ∧ (¬ nI a ≤ (nI lim - nI p) → post 3 (xic, xoc, nI N, xhf, nI fd, nI ll, xol, xea, fw_w true, nI i, xfo, nI sp, nI p, nI b, nI lim, nI us, iK, iA, iB, xM, xO, xS, FK, FA, FB, FM, inp, lst, out, vs, xR, xL))))) (xic, xoc, nI N, xhf, nI fd, nI ll, xol, xea, fw_w true, nI i, xfo, nI sp, nI p, nI b, nI lim, nI us, iK, iA, iB, xM, xO, xS, FK, FA, FB, FM, inp, lst, out, vs, xR, xL) (lst us) (nI a) (FB i) → wpX_doItem post (xic, xoc, nI N, xhf, nI fd, nI ll, xol, xea, fw_w true, nI i, xfo, nI sp, nI p, nI b, nI lim, nI us, iK, iA, iB, xM, xO, xS, FK, FA, FB, FM, inp, lst, out, vs, xR, xL) (nI 0) (FA i) (FB i) := by
    intro post H
    rw [ha]
    exact nm_r ev (br_f (by decide) (br_f (by decide) (br_t (by decide) (br_f (by decide) ⟨vu, nm_r eu H⟩))))
  have HYin : ∀ post : Int32 → SY → Prop, wY_give_46 (fun r u => match u with | (yic, ysz, yfd, yls, ymd, ysa, ytk, ydp, yps, ybi, ysp, yus, ynx, yra, yrd, yK, yA, yB, zK, zA, zB, yin, ylst, yout, yvs, yO, yN, yS, yT) => post r (yic, ysz, yfd, yls, ymd, ysa, ytk, ydp, yps, ybi, ysp, yus, ynx, yra, yrd, yK, yA, yB, zK, zA, zB, yin, ylst, yout, yvs, yO, yN, yS, yT)) (nI 0) (nI i) (nI v) (lst us) (nI a) (8 * nI a) yic (nI N) (nI fd) (nI ll) ymd ysa ytk (nI dp) (nI p) (nI b) (nI sp) (nI us) ynx yra (fw_r true) iK iA iB FK FA FB inp lst out vs yO yN yS yT → wY_item_113 post (nI i) (nI 0) yic (nI N) (nI fd) (nI ll) ymd ysa ytk (nI dp) (nI p) (nI b) (nI sp) (nI us) ynx yra (fw_r true) iK iA iB FK FA FB inp lst out vs yO yN yS yT := by
    intro post H
    exact ⟨vi, nm_r ev' (br_f (by decide) (br_t (by decide) (br_f nu ⟨vu, nm_r eu ⟨vi, nm_r ea (br_t (by decide) H)⟩⟩)))⟩
  obtain ⟨g, g1, g5, glt, gg⟩ := fi_g (lst us)
  by_cases hf : fi_ok a (FB i) (lst us)
  · by_cases h : p + a ≤ lim
    · have cX : nI a ≤ nI lim - nI p := by rw [esub]; exact nI_le (by omega) (by omega)
      obtain ⟨B, b0, b1, b2, b3⟩ : ∃ B : Nat → Int32, ((FB i &&& 8) = 0 → ∀ j, j < a → B (p + (a - 1 - j)) = ((lst us) >>> (nI (8 * j) &&& 31)) &&& 255) ∧ (¬ (FB i &&& 8) = 0 → ∀ j, j < a → B (p + j) = ((lst us) >>> (nI (8 * j) &&& 31)) &&& 255) ∧ ((FB i &&& 8) = 0 → ∀ j, j < a → B (p + j) = ((lst us) >>> (nI (8 * (a - 1 - j)) &&& 31)) &&& 255) ∧ (¬ (FB i &&& 8) = 0 → ∀ j, j < a → B (p + j) = ((lst us) >>> (nI (8 * j) &&& 31)) &&& 255) := by
        by_cases z : (FB i &&& 8) = 0
        · refine ⟨fun t => ((lst us) >>> (nI (8 * (a - 1 - (t - p))) &&& 31)) &&& 255, fun _ j hj => ?_, fun y => absurd z y, fun _ j hj => ?_, fun y => absurd z y⟩
          · show ((lst us) >>> (nI (8 * (a - 1 - (p + (a - 1 - j) - p))) &&& 31)) &&& 255 = _
            rw [show a - 1 - (p + (a - 1 - j) - p) = j by omega]
          · show ((lst us) >>> (nI (8 * (a - 1 - (p + j - p))) &&& 31)) &&& 255 = _
            rw [show p + j - p = j by omega]
        · have q : ∀ j, j < a → (fun t => ((lst us) >>> (nI (8 * (t - p)) &&& 31)) &&& 255) (p + j) = ((lst us) >>> (nI (8 * j) &&& 31)) &&& 255 := by
            intro j hj
            show ((lst us) >>> (nI (8 * (p + j - p)) &&& 31)) &&& 255 = _
            rw [show p + j - p = j by omega]
          exact ⟨fun t => ((lst us) >>> (nI (8 * (t - p)) &&& 31)) &&& 255, fun y => absurd y z, fun _ => q, fun y => absurd y z, fun _ => q⟩
      refine Or.inr ⟨p + a, b, us + 1, ll, lst, fo B out p (p + a), upd vs v (lst us), h, hb, fun _ => by omega, hu, hll, fun post H => HXin _ (rx_fit1 (w := true) h1 hf (br_f (by decide) (br_t cX ⟨a + 1, ?_⟩))), fun post H => HYin _ (ry_fit1 (w := true) hi h1 hf (ry_120 (w := true) g1 g5 glt gg (br_t (by decide) ?_)))⟩
      · refine rw_X (w := true) (B := B) (out0 := out) h1 h4 (by omega) b0 b1 ?_ a 0 out (by omega) (fun _ => ?_) (fun _ => ?_)
        · rw [ev]
          exact rx_kw (w := true) hv H
        · rw [Nat.sub_zero, fo_0]
        · rw [Nat.add_zero, fo_0]
      · refine rE_1 (w := true) E h (br_f (by decide) (nm_r (nI_1 us) ⟨vv, nm_r (by rw [cv]) (br_t (by decide) ⟨vi, ?_⟩)⟩))
        rw [eb]
        by_cases z : (FB i &&& 8) = 0
        · have K := rw_Y (w := true) (B := B) (out0 := out) (x10 := 0) h1 h4 (by omega) (fun _ => b2 z) (fun y => absurd rfl y) H a 0 (by omega)
          rw [Nat.add_zero p, fo_0] at K
          exact br_t z ⟨a + 1, K⟩
        · have K := rw_Y (w := true) (B := B) (out0 := out) (x10 := 1) h1 h4 (by omega) (fun y => absurd y (by decide)) (fun _ => b3 z) H a 0 (by omega)
          rw [Nat.add_zero p, fo_0] at K
          exact br_f z ⟨a + 1, K⟩
    · have cX : ¬ nI a ≤ nI lim - nI p := by rw [esub]; exact nI_ge (by omega) (by omega)
      exact Or.inl ⟨3, nI p, by decide, fun _ => rfl, fun post H => HXin _ (rx_fit1 (w := true) h1 hf (br_f (by decide) (br_f cX H))), fun post H => HYin _ (ry_fit1 (w := true) hi h1 hf (ry_120 (w := true) g1 g5 glt gg (br_t (by decide) (rE_0 (w := true) E hp (by omega) (by omega) (br_t rfl H)))))⟩
  · exact Or.inl ⟨4, nI p, by decide, fun _ => rfl, fun post H => HXin _ (rx_fit0 (w := true) h1 h4 hf (br_t rfl H)), fun post H => HYin _ (ry_fit0 (w := true) hi h1 h4 hf H)⟩
end
end
section
/-! VAR and BITS, given -/
section
variable {xic xoc xfc xhf xil xll xol xea xwr xcu xfo xsp xpo xbl xli xvu yic ysz yfd yls ymd ysa ytk ydp yps ybi ysp yus ynx yra yrd : Int32} {iK iA iB xM xO xS FK FA FB FM inp lst out vs xR xL yO yN yS yT : Nat → Int32}
variable {N fd ll i sp p b lim us dp base S : Nat} {w : Bool}
def fi_B (x : Int32) (p g : Nat) : Nat → Int32 := fun t => if t + 1 < p + g then (fi_U x (t - p) &&& 127) ||| 128 else fi_U x (t - p) &&& 127
theorem rw_VX {post : Int32 → SX → Prop} {g : Nat} {v x : Int32} {out0 : Nat → Int32} (h1 : 1 ≤ g) (h5 : g ≤ 5) (hpg : p + g ≤ 64) (H : wpX_keepWritten (fun u => match u with | (xic, xoc, xfc, xhf, xil, xll, xol, xea, xwr, xcu, xfo, xsp, xpo, xbl, xli, xvu, iK, iA, iB, xM, xO, xS, FK, FA, FB, FM, inp, lst, out, vs, xR, xL) => post 0 (xic, xoc, xfc, xhf, xil, xll, xol, xea, xwr, xcu, xfo, xsp, xpo, xbl, xli, xvu, iK, iA, iB, xM, xO, xS, FK, FA, FB, FM, inp, lst, out, vs, xR, xL)) (xic, xoc, nI N, xhf, nI fd, nI ll, xol, xea, fw_w w, nI i, xfo, nI sp, nI (p + g), nI b, nI lim, nI us, iK, iA, iB, xM, xO, xS, FK, FA, FB, FM, inp, lst, fo (fi_B x p g) out0 p (p + g), vs, xR, xL) x v) : ∀ (d j : Nat), j + d = g → wX_writeVar_50 post v x (nI g) xic xoc (nI N) xhf (nI fd) (nI ll) xol xea (fw_w w) (nI i) xfo (nI sp) (nI p) (nI b) (nI lim) (nI us) (d + 1) (nI j) iK iA iB xM xO xS FK FA FB FM inp lst (fo (fi_B x p g) out0 p (p + j)) vs xR xL := by
  intro d
  induction d with
  | zero =>
    intro j hj
    have e : j = g := by omega
    rw [e]
    exact br_t (nI_le (by omega) (by omega)) (nm_r (nI_add p g) H)
  | succ d ih =>
    intro j hj
    have e7 : (7 : Int32) * nI j = nI (7 * j) := pk_mul 7 j
    have e1 : nI p + nI j = nI (p + j) := nI_add p j
    have v1 : vp_in (nI p + nI j) 64 := by rw [e1]; exact vp_in_nI (by omega) (by omega)
    have c1 : (nI p + nI j).toNatClampNeg = p + j := by rw [e1]; exact nI_clamp (by omega)
    have eg : nI g - 1 = nI (g - 1) := pk_sub (b := 1) (by omega)
    have ex : ((x.toUInt32 >>> ((7 * nI j).toUInt32 &&& Int32.toUInt32 31)).toInt32) &&& 127 = fi_U x j &&& 127 := by rw [e7]; rfl
    have K := ih (j + 1) (by omega)
    refine br_f (nI_ge (by omega) (by omega)) (nm_r ex ?_)
    by_cases z : j + 1 < g
    · refine br_f (by rw [eg]; exact nI_ge (by omega) (by omega)) ⟨v1, nm_r (e' := fo (fi_B x p g) out0 p (p + (j + 1))) ?_ (nm_r (nI_1 j) K)⟩
      have eB : fi_B x p g (p + j) = (fi_U x j &&& 127) ||| 128 := by
        unfold fi_B
        rw [if_pos (by omega), show p + j - p = j by omega]
      rw [c1, ← eB, fo_s _ _ (by omega), Nat.add_assoc]
    · refine br_t (by rw [eg]; exact nI_le (by omega) (by omega)) ⟨v1, nm_r (e' := fo (fi_B x p g) out0 p (p + (j + 1))) ?_ (nm_r (nI_1 j) K)⟩
      have eB : fi_B x p g (p + j) = fi_U x j &&& 127 := by
        unfold fi_B
        rw [if_neg (by omega), show p + j - p = j by omega]
      rw [c1, ← eB, fo_s _ _ (by omega), Nat.add_assoc]
theorem rw_VY {post : Int32 → SY → Prop} {g : Nat} {x : Int32} {out0 : Nat → Int32} (h1 : 1 ≤ g) (h5 : g ≤ 5) (hpg : p + g ≤ 64) (H : post 0 (yic, nI N, nI fd, nI ll, ymd, ysa, ytk, nI dp, nI (p + g), nI b, nI sp, nI us, ynx, yra, fw_r w, iK, iA, iB, FK, FA, FB, inp, lst, fo (fi_B x p g) out0 p (p + g), vs, yO, yN, yS, yT)) : ∀ (d j : Nat), j + d = g → wY_give_307 post x (nI g) yic (nI N) (nI fd) (nI ll) ymd ysa ytk (nI dp) (nI b) (nI sp) (nI us) ynx yra (fw_r w) (d + 1) (nI j) (nI (p + j)) iK iA iB FK FA FB inp lst (fo (fi_B x p g) out0 p (p + j)) vs yO yN yS yT := by
  intro d
  induction d with
  | zero =>
    intro j hj
    have e : j = g := by omega
    rw [e]
    exact br_t (nI_le (by omega) (by omega)) H
  | succ d ih =>
    intro j hj
    have e7 : (7 : Int32) * nI j = nI (7 * j) := pk_mul 7 j
    have v1 : vp_in (nI (p + j)) 64 := vp_in_nI (by omega) (by omega)
    have c1 : (nI (p + j)).toNatClampNeg = p + j := nI_clamp (by omega)
    have ex : ((x.toUInt32 >>> ((7 * nI j).toUInt32 &&& Int32.toUInt32 31)).toInt32) &&& 127 = fi_U x j &&& 127 := by rw [e7]; rfl
    have K := ih (j + 1) (by omega)
    refine br_f (nI_ge (by omega) (by omega)) (nm_r (nI_1 (p + j)) ?_)
    by_cases z : j + 1 < g
    · refine br_f (by rw [nI_1]; exact nI_ge (by omega) (by omega)) ⟨v1, nm_r (e' := fo (fi_B x p g) out0 p (p + (j + 1))) ?_ (nm_r (nI_1 j) K)⟩
      have eB : fi_B x p g (p + j) = (fi_U x j &&& 127) ||| 128 := by
        unfold fi_B
        rw [if_pos (by omega), show p + j - p = j by omega]
      rw [c1, ex, ← eB, fo_s _ _ (by omega), Nat.add_assoc]
    · refine br_t (by rw [nI_1]; exact nI_le (by omega) (by omega)) ⟨v1, nm_r (e' := fo (fi_B x p g) out0 p (p + (j + 1))) ?_ (nm_r (nI_1 j) K)⟩
      have eB : fi_B x p g (p + j) = fi_U x j &&& 127 := by
        unfold fi_B
        rw [if_neg (by omega), show p + j - p = j by omega]
      rw [c1, ex, fb_0or, ← eB, fo_s _ _ (by omega), Nat.add_assoc]
theorem rx_V12 {post : Int32 → SX → Prop} {v x : Int32} {g : Nat} (h5 : g ≤ 5) (hlt : ∀ l, 1 ≤ l → l < g → ¬ fi_U x l = 0) (hg : g < 5 → fi_U x g = 0) (H : wX_writeVar_32 post v x (nI g) xic xoc (nI N) xhf (nI fd) (nI ll) xol xea (fw_w w) (nI i) xfo (nI sp) (nI p) (nI b) (nI lim) (nI us) iK iA iB xM xO xS FK FA FB FM inp lst out vs xR xL) : ∀ d l : Nat, 1 ≤ l → l + d = g → wX_writeVar_12 post v x xic xoc (nI N) xhf (nI fd) (nI ll) xol xea (fw_w w) (nI i) xfo (nI sp) (nI p) (nI b) (nI lim) (nI us) iK iA iB xM xO xS FK FA FB FM inp lst out vs xR xL (d + 1) (nI l) := by
  intro d
  induction d with
  | zero =>
    intro l h1 hl
    have e : l = g := by omega
    rw [e]
    by_cases z : g < 5
    · refine br_f (nI_ge (b := 5) z (by decide)) (br_t ?_ H)
      rw [show (7 : Int32) * nI g = nI (7 * g) from pk_mul 7 g]
      exact hg z
    · exact br_t (nI_le (a := 5) (by omega) (by omega)) H
  | succ d ih =>
    intro l h1 hl
    refine br_f (nI_ge (b := 5) (by omega) (by decide)) (br_f ?_ (nm_r (nI_1 l) (ih (l + 1) (by omega) (by omega))))
    rw [show (7 : Int32) * nI l = nI (7 * l) from pk_mul 7 l]
    exact hlt l h1 (by omega)
theorem rf_1w (E : fr_E FK xR xL yO yN N fd lim S i dp w) (hp : p ≤ lim) (hb : b ≤ 7) (hbp : 0 < b → 0 < p) (hus : us ≤ ll) (hll : ll ≤ 40) (hw : w = true) (hu : us < ll) : (∃ (r q : Int32), r ≠ 0 ∧ (w = true → q = nI p) ∧ (∀ post : Int32 → SX → Prop, post r (xic, xoc, nI N, xhf, nI fd, nI ll, xol, xea, fw_w w, nI i, xfo, nI sp, nI p, nI b, nI lim, nI us, iK, iA, iB, xM, xO, xS, FK, FA, FB, FM, inp, lst, out, vs, xR, xL) → wpX_doItem post (xic, xoc, nI N, xhf, nI fd, nI ll, xol, xea, fw_w w, nI i, xfo, nI sp, nI p, nI b, nI lim, nI us, iK, iA, iB, xM, xO, xS, FK, FA, FB, FM, inp, lst, out, vs, xR, xL) (nI 1) (FA i) (FB i)) ∧ (∀ post : Int32 → SY → Prop, post r (yic, nI N, nI fd, nI ll, ymd, ysa, ytk, nI dp, q, nI b, nI sp, nI us, ynx, yra, fw_r w, iK, iA, iB, FK, FA, FB, inp, lst, out, vs, yO, yN, yS, yT) → wY_item_113 post (nI i) (nI 1) yic (nI N) (nI fd) (nI ll) ymd ysa ytk (nI dp) (nI p) (nI b) (nI sp) (nI us) ynx yra (fw_r w) iK iA iB FK FA FB inp lst out vs yO yN yS yT)) ∨ (∃ (p' b' us' ll' : Nat) (lst' out' vs' : Nat → Int32), p' ≤ lim ∧ b' ≤ 7 ∧ (0 < b' → 0 < p') ∧ us' ≤ ll' ∧ ll' ≤ 40 ∧ (∀ post : Int32 → SX → Prop, post 0 (xic, xoc, nI N, xhf, nI fd, nI ll', xol, xea, fw_w w, nI i, xfo, nI sp, nI p', nI b', nI lim, nI us', iK, iA, iB, xM, xO, xS, FK, FA, FB, FM, inp, lst', out', vs', xR, xL) → wpX_doItem post (xic, xoc, nI N, xhf, nI fd, nI ll, xol, xea, fw_w w, nI i, xfo, nI sp, nI p, nI b, nI lim, nI us, iK, iA, iB, xM, xO, xS, FK, FA, FB, FM, inp, lst, out, vs, xR, xL) (nI 1) (FA i) (FB i)) ∧ (∀ post : Int32 → SY → Prop, post 0 (yic, nI N, nI fd, nI ll', ymd, ysa, ytk, nI dp, nI p', nI b', nI sp, nI us', ynx, yra, fw_r w, iK, iA, iB, FK, FA, FB, inp, lst', out', vs', yO, yN, yS, yT) → wY_item_113 post (nI i) (nI 1) yic (nI N) (nI fd) (nI ll) ymd ysa ytk (nI dp) (nI p) (nI b) (nI sp) (nI us) ynx yra (fw_r w) iK iA iB FK FA FB inp lst out vs yO yN yS yT)) := by
  obtain ⟨hi, hlim, ci, vi⟩ := rE_i E
  obtain ⟨v, hv, ev, vv, cv⟩ := rE_v (FB i)
  have ev' : FB (nI i).toNatClampNeg &&& 7 = nI v := by rw [ci]; exact ev
  have esub : nI lim - nI p = nI (lim - p) := pk_sub hp
  have vu : vp_in (nI us) 40 := vp_in_nI (by omega) (by omega)
  have eu : lst (nI us).toNatClampNeg = lst us := by rw [nI_clamp (by omega)]
  have nu : ¬ nI us = nI ll := fun z => by
    have := (nI_eq (by omega) (by omega)).mp z
    omega
  subst hw
  obtain ⟨g, g1, g5, glt, gg⟩ := fi_g (lst us)
  have HXin : ∀ post : Int32 → SX → Prop, wX_writeVar_32 (fun r u => match u with | (xic, xoc, xfc, xhf, xil, xll, xol, xea, xwr, xcu, xfo, xsp, xpo, xbl, xli, xvu, iK, iA, iB, xM, xO, xS, FK, FA, FB, FM, inp, lst, out, vs, xR, xL) => post r (xic, xoc, xfc, xhf, xil, xll, xol, xea, xwr, xcu, xfo, xsp, xpo, xbl, xli, xvu, iK, iA, iB, xM, xO, xS, FK, FA, FB, FM, inp, lst, out, vs, xR, xL)) (nI v) (lst us) (nI g) xic xoc (nI N) xhf (nI fd) (nI ll) xol xea (fw_w true) (nI i) xfo (nI sp) (nI p) (nI b) (nI lim) (nI us) iK iA iB xM xO xS FK FA FB FM inp lst out vs xR xL → wpX_doItem post (xic, xoc, nI N, xhf, nI fd, nI ll, xol, xea, fw_w true, nI i, xfo, nI sp, nI p, nI b, nI lim, nI us, iK, iA, iB, xM, xO, xS, FK, FA, FB, FM, inp, lst, out, vs, xR, xL) (nI 1) (FA i) (FB i) := by
    intro post H
    exact nm_r ev (br_f (by decide) (br_f (by decide) (br_f (by decide) (br_t (by decide) (br_f (by decide) ⟨vu, nm_r eu ⟨g - 1 + 1, rx_V12 (w := true) g5 glt gg H (g - 1) 1 (by omega) (by omega)⟩⟩)))))
  have HYin : ∀ post : Int32 → SY → Prop, wY_give_188 (fun r u => match u with | (yic, ysz, yfd, yls, ymd, ysa, ytk, ydp, yps, ybi, ysp, yus, ynx, yra, yrd, yK, yA, yB, zK, zA, zB, yin, ylst, yout, yvs, yO, yN, yS, yT) => post r (yic, ysz, yfd, yls, ymd, ysa, ytk, ydp, yps, ybi, ysp, yus, ynx, yra, yrd, yK, yA, yB, zK, zA, zB, yin, ylst, yout, yvs, yO, yN, yS, yT)) (nI 1) (nI i) (nI v) (lst us) (FA (nI i).toNatClampNeg) (nI g) (nI g) yic (nI N) (nI fd) (nI ll) ymd ysa ytk (nI dp) (nI p) (nI b) (nI sp) (nI us) ynx yra (fw_r true) iK iA iB FK FA FB inp lst out vs yO yN yS yT → wY_item_113 post (nI i) (nI 1) yic (nI N) (nI fd) (nI ll) ymd ysa ytk (nI dp) (nI p) (nI b) (nI sp) (nI us) ynx yra (fw_r true) iK iA iB FK FA FB inp lst out vs yO yN yS yT := by
    intro post H
    refine ⟨vi, nm_r ev' (br_f (by decide) (br_t (by decide) (br_f nu ⟨vu, nm_r eu ⟨vi, nm_e (br_f (by decide) (br_f (by decide) (br_t (by decide) ?_)))⟩⟩)))⟩
    exact ry_120 (w := true) g1 g5 glt gg (br_f (by decide) (br_t (by decide) H))
  by_cases h : p + g ≤ lim
  · have cX : nI g ≤ nI lim - nI p := by rw [esub]; exact nI_le (by omega) (by omega)
    refine Or.inr ⟨p + g, b, us + 1, ll, lst, fo (fi_B (lst us) p g) out p (p + g), upd vs v (lst us), h, hb, fun _ => by omega, hu, hll, fun post H => HXin _ (br_t cX ⟨g + 1, ?_⟩), fun post H => HYin _ (rE_1 (w := true) E h (br_f (by decide) (nm_r (nI_1 us) ⟨vv, nm_r (by rw [cv]) (br_f (by decide) (br_t (by decide) ⟨g + 1, ?_⟩))⟩)))⟩
    · have K := rw_VX (w := true) (post := fun r u => match u with | (xic, xoc, xfc, xhf, xil, xll, xol, xea, xwr, xcu, xfo, xsp, xpo, xbl, xli, xvu, iK, iA, iB, xM, xO, xS, FK, FA, FB, FM, inp, lst, out, vs, xR, xL) => post r (xic, xoc, xfc, xhf, xil, xll, xol, xea, xwr, xcu, xfo, xsp, xpo, xbl, xli, xvu, iK, iA, iB, xM, xO, xS, FK, FA, FB, FM, inp, lst, out, vs, xR, xL)) (out0 := out) (x := lst us) (v := nI v) g1 g5 (by omega) (rx_kw (w := true) hv H) g 0 (by omega)
      rw [Nat.add_zero p, fo_0] at K
      exact K
    · have K := rw_VY (w := true) (post := fun r u => match u with | (yic, ysz, yfd, yls, ymd, ysa, ytk, ydp, yps, ybi, ysp, yus, ynx, yra, yrd, yK, yA, yB, zK, zA, zB, yin, ylst, yout, yvs, yO, yN, yS, yT) => post r (yic, ysz, yfd, yls, ymd, ysa, ytk, ydp, yps, ybi, ysp, yus, ynx, yra, yrd, yK, yA, yB, zK, zA, zB, yin, ylst, yout, yvs, yO, yN, yS, yT)) (out0 := out) (x := lst us) g1 g5 (by omega) H g 0 (by omega)
      rw [Nat.add_zero p, fo_0] at K
      exact K
  · have cX : ¬ nI g ≤ nI lim - nI p := by rw [esub]; exact nI_ge (by omega) (by omega)
    exact Or.inl ⟨3, nI p, by decide, fun _ => rfl, fun post H => HXin _ (br_f cX H), fun post H => HYin _ (rE_0 (w := true) E hp (by omega) (by omega) (br_t rfl H))⟩
/-! BITS -/
theorem rwb_lock {v : Nat} {x : Int32} {yV : Nat → Int32} (hlim : lim ≤ 64) : ∀ (d q c : Nat) (out : Nat → Int32), d ≤ 16 → q ≤ lim → c ≤ 7 → (0 < c → 0 < q) → d ≤ c + 8 * (lim - q) →
    ∃ (q' c' : Nat) (out' : Nat → Int32), q' ≤ lim ∧ c' ≤ 7 ∧ (0 < c' → 0 < q') ∧ (∀ post : Int32 → SX → Prop, wpX_keepWritten (fun u => match u with | (xic, xoc, xfc, xhf, xil, xll, xol, xea, xwr, xcu, xfo, xsp, xpo, xbl, xli, xvu, iK, iA, iB, xM, xO, xS, FK, FA, FB, FM, inp, lst, out, vs, xR, xL) => post 0 (xic, xoc, xfc, xhf, xil, xll, xol, xea, xwr, xcu, xfo, xsp, xpo, xbl, xli, xvu, iK, iA, iB, xM, xO, xS, FK, FA, FB, FM, inp, lst, out, vs, xR, xL)) (xic, xoc, nI N, xhf, nI fd, nI ll, xol, xea, fw_w w, nI i, xfo, nI sp, nI q', nI c', nI lim, nI us, iK, iA, iB, xM, xO, xS, FK, FA, FB, FM, inp, lst, out', vs, xR, xL) x (nI v) → wX_writeBits_46 post (nI v) x xic xoc (nI N) xhf (nI fd) (nI ll) xol xea (fw_w w) (nI i) xfo (nI sp) (nI lim) (nI us) (d + 1) (nI d + (-1)) (nI q) (nI c) iK iA iB xM xO xS FK FA FB FM inp lst out vs xR xL) ∧ (∀ post : SY → Prop, post (yic, nI N, nI fd, nI ll, ymd, ysa, ytk, nI dp, nI q', nI c', nI sp, yus, ynx, yra, fw_r w, iK, iA, iB, FK, FA, FB, inp, lst, out', yV, yO, yN, yS, yT) → wY_giveBits_4 post x yic (nI N) (nI fd) (nI ll) ymd ysa ytk (nI dp) (nI sp) yus ynx yra (fw_r w) (d + 1) (nI d + (-1)) (nI q) (nI c) iK iA iB FK FA FB inp lst out yV yO yN yS yT) := by
  intro d
  induction d with
  | zero =>
    intro q c out hd16 hq hc hcq hd
    exact ⟨q, c, out, hq, hc, hcq, fun post H => br_t (by decide) H, fun post H => br_t (by decide) H⟩
  | succ d ih =>
    intro q c out hd16 hq hc hcq hd
    have ed : nI (d + 1) + (-1) = nI d := pk_m1 d
    have n0 : ¬ nI d < 0 := nI_pos (by omega)
    rw [ed]
    by_cases h0 : c = 0
    · subst h0
      have em : nI (q + 1) - 1 = nI q := nI_pred q
      have vm : vp_in (nI (q + 1) - 1) 64 := by rw [em]; exact vp_in_nI (by omega) (by omega)
      have cm : (nI (q + 1) - 1).toNatClampNeg = q := by rw [em]; exact nI_clamp (by omega)
      have vq : vp_in (nI q) 64 := vp_in_nI (by omega) (by omega)
      have cq : (nI q).toNatClampNeg = q := nI_clamp (by omega)
      obtain ⟨q', c', out', k1, k2, k3, HX, HY⟩ := ih (q + 1) 7 (upd (upd out q 0) q ((upd out q 0) q ||| (((x >>> (nI d &&& 31)) &&& 1) <<< (nI 7 &&& 31)))) (by omega) (by omega) (by omega) (fun _ => by omega) (by omega)
      exact ⟨q', c', out', k1, k2, k3, fun post H => br_f n0 (br_t (by decide) ⟨vq, nm_r (by rw [cq]) (nm_r (nI_1 q) (nm_r (e' := nI 7) (by decide) ⟨vm, vm, nm_r (by rw [cm]) (nm_e (HX post H))⟩))⟩), fun post H => br_f n0 (br_t (by decide) (nm_r (nI_1 q) ⟨vq, nm_r (by rw [cq]) (nm_r (e' := nI 7) (by decide) ⟨vm, vm, nm_r (by rw [cm]) (nm_e (HY post H))⟩)⟩))⟩
    · obtain ⟨c, rfl⟩ : ∃ e, c = e + 1 := ⟨c - 1, by omega⟩
      have hq0 := hcq (by omega)
      obtain ⟨q, rfl⟩ : ∃ e, q = e + 1 := ⟨q - 1, by omega⟩
      have em : nI (q + 1) - 1 = nI q := nI_pred q
      have vm : vp_in (nI (q + 1) - 1) 64 := by rw [em]; exact vp_in_nI (by omega) (by omega)
      have cm : (nI (q + 1) - 1).toNatClampNeg = q := by rw [em]; exact nI_clamp (by omega)
      have m0 : ¬ nI (c + 1) = 0 := nI_ne0 (by omega) (by omega)
      obtain ⟨q', c', out', k1, k2, k3, HX, HY⟩ := ih (q + 1) c (upd out q (out q ||| (((x >>> (nI d &&& 31)) &&& 1) <<< (nI c &&& 31)))) (by omega) (by omega) (by omega) (fun _ => by omega) (by omega)
      exact ⟨q', c', out', k1, k2, k3, fun post H => br_f n0 (br_f m0 (nm_r (nI_pred c) ⟨vm, vm, nm_r (by rw [cm]) (nm_e (HX post H))⟩)), fun post H => br_f n0 (br_f m0 (nm_r (nI_pred c) ⟨vm, vm, nm_r (by rw [cm]) (nm_e (HY post H))⟩))⟩
theorem rf_2w (E : fr_E FK xR xL yO yN N fd lim S i dp w) (hp : p ≤ lim) (hb : b ≤ 7) (hbp : 0 < b → 0 < p) (hus : us ≤ ll) (hll : ll ≤ 40) {a : Nat} (h1 : 1 ≤ a) (h16 : a ≤ 16) (ha : FA i = nI a) (hw : w = true) (hu : us < ll) : (∃ (r q : Int32), r ≠ 0 ∧ (w = true → q = nI p) ∧ (∀ post : Int32 → SX → Prop, post r (xic, xoc, nI N, xhf, nI fd, nI ll, xol, xea, fw_w w, nI i, xfo, nI sp, nI p, nI b, nI lim, nI us, iK, iA, iB, xM, xO, xS, FK, FA, FB, FM, inp, lst, out, vs, xR, xL) → wpX_doItem post (xic, xoc, nI N, xhf, nI fd, nI ll, xol, xea, fw_w w, nI i, xfo, nI sp, nI p, nI b, nI lim, nI us, iK, iA, iB, xM, xO, xS, FK, FA, FB, FM, inp, lst, out, vs, xR, xL) (nI 2) (FA i) (FB i)) ∧ (∀ post : Int32 → SY → Prop, post r (yic, nI N, nI fd, nI ll, ymd, ysa, ytk, nI dp, q, nI b, nI sp, nI us, ynx, yra, fw_r w, iK, iA, iB, FK, FA, FB, inp, lst, out, vs, yO, yN, yS, yT) → wY_item_113 post (nI i) (nI 2) yic (nI N) (nI fd) (nI ll) ymd ysa ytk (nI dp) (nI p) (nI b) (nI sp) (nI us) ynx yra (fw_r w) iK iA iB FK FA FB inp lst out vs yO yN yS yT)) ∨ (∃ (p' b' us' ll' : Nat) (lst' out' vs' : Nat → Int32), p' ≤ lim ∧ b' ≤ 7 ∧ (0 < b' → 0 < p') ∧ us' ≤ ll' ∧ ll' ≤ 40 ∧ (∀ post : Int32 → SX → Prop, post 0 (xic, xoc, nI N, xhf, nI fd, nI ll', xol, xea, fw_w w, nI i, xfo, nI sp, nI p', nI b', nI lim, nI us', iK, iA, iB, xM, xO, xS, FK, FA, FB, FM, inp, lst', out', vs', xR, xL) → wpX_doItem post (xic, xoc, nI N, xhf, nI fd, nI ll, xol, xea, fw_w w, nI i, xfo, nI sp, nI p, nI b, nI lim, nI us, iK, iA, iB, xM, xO, xS, FK, FA, FB, FM, inp, lst, out, vs, xR, xL) (nI 2) (FA i) (FB i)) ∧ (∀ post : Int32 → SY → Prop, post 0 (yic, nI N, nI fd, nI ll', ymd, ysa, ytk, nI dp, nI p', nI b', nI sp, nI us', ynx, yra, fw_r w, iK, iA, iB, FK, FA, FB, inp, lst', out', vs', yO, yN, yS, yT) → wY_item_113 post (nI i) (nI 2) yic (nI N) (nI fd) (nI ll) ymd ysa ytk (nI dp) (nI p) (nI b) (nI sp) (nI us) ynx yra (fw_r w) iK iA iB FK FA FB inp lst out vs yO yN yS yT)) := by
  obtain ⟨hi, hlim, ci, vi⟩ := rE_i E
  obtain ⟨v, hv, ev, vv, cv⟩ := rE_v (FB i)
  have ev' : FB (nI i).toNatClampNeg &&& 7 = nI v := by rw [ci]; exact ev
  have ea : FA (nI i).toNatClampNeg = nI a := by rw [ci]; exact ha
  have esub : nI lim - nI p = nI (lim - p) := pk_sub hp
  have f16 := fq_lt (b := b) h16
  have vu : vp_in (nI us) 40 := vp_in_nI (by omega) (by omega)
  have eu : lst (nI us).toNatClampNeg = lst us := by rw [nI_clamp (by omega)]
  have nu : ¬ nI us = nI ll := fun z => by
    have := (nI_eq (by omega) (by omega)).mp z
    omega
  have n32 : ¬ nI a = (32 : Int32) := fun z => by
    have := (nI_eq (a := a) (b := 32) (by omega) (by omega)).mp z
    omega
  have hfit := fb_fit (lst us) (n := a) (by omega)
  obtain ⟨g, g1, g5, glt, gg⟩ := fi_g (lst us)
  subst hw
  have HYin : ∀ post : Int32 → SY → Prop, (((lst us) >>> (nI a &&& 31)) = 0 → wY_give_120 (fun r u => match u with | (yic, ysz, yfd, yls, ymd, ysa, ytk, ydp, yps, ybi, ysp, yus, ynx, yra, yrd, yK, yA, yB, zK, zA, zB, yin, ylst, yout, yvs, yO, yN, yS, yT) => post r (yic, ysz, yfd, yls, ymd, ysa, ytk, ydp, yps, ybi, ysp, yus, ynx, yra, yrd, yK, yA, yB, zK, zA, zB, yin, ylst, yout, yvs, yO, yN, yS, yT)) (nI 2) (nI i) (nI v) (lst us) (nI a) yic (nI N) (nI fd) (nI ll) ymd ysa ytk (nI dp) (nI p) (nI b) (nI sp) (nI us) ynx yra (fw_r true) iK iA iB FK FA FB inp lst out vs yO yN yS yT) → (¬ ((lst us) >>> (nI a &&& 31)) = 0 → post 4 (yic, nI N, nI fd, nI ll, ymd, ysa, ytk, nI dp, nI p, nI b, nI sp, nI us, ynx, yra, fw_r true, iK, iA, iB, FK, FA, FB, inp, lst, out, vs, yO, yN, yS, yT)) → wY_item_113 post (nI i) (nI 2) yic (nI N) (nI fd) (nI ll) ymd ysa ytk (nI dp) (nI p) (nI b) (nI sp) (nI us) ynx yra (fw_r true) iK iA iB FK FA FB inp lst out vs yO yN yS yT := by
    intro post H1 H2
    exact ⟨vi, nm_r ev' (br_f (by decide) (br_t (by decide) (br_f nu ⟨vu, nm_r eu ⟨vi, nm_r ea (br_f (by decide) (br_f (by decide) (br_f (by decide) (br_f n32 (br_t rfl ⟨H1, fun z => br_t rfl (H2 z)⟩)))))⟩⟩)))⟩
  by_cases hz : ((lst us) >>> (nI a &&& 31)) = 0
  · have hz' := hfit.mpr hz
    by_cases h : fq a b ≤ lim - p
    · have cX : nI (fq a b) ≤ nI lim - nI p := by rw [esub]; exact nI_le h (by omega)
      obtain ⟨q', c', out', k1, k2, k3, HX, HY⟩ := rwb_lock (v := v) (x := lst us) (yV := upd vs v (lst us)) (yus := nI (us + 1)) hlim a p b out (by omega) hp hb hbp (fq_le h) (w := true) (i := i) (N := N) (fd := fd) (ll := ll) (us := us) (sp := sp) (dp := dp) (xic := xic) (xoc := xoc) (xhf := xhf) (xol := xol) (xea := xea) (xfo := xfo) (xS := xS) (xM := xM) (xO := xO) (FK := FK) (FM := FM) (xR := xR) (xL := xL) (iK := iK) (iA := iA) (iB := iB) (FA := FA) (FB := FB) (inp := inp) (lst := lst) (vs := vs) (yic := yic) (ymd := ymd) (ysa := ysa) (ytk := ytk) (ynx := ynx) (yra := yra) (yO := yO) (yN := yN) (yS := yS) (yT := yT)
      refine Or.inr ⟨q', c', us + 1, ll, lst, out', upd vs v (lst us), k1, k2, k3, hu, hll, fun post H => ?_, fun post H => HYin _ (fun _ => ry_120 (w := true) g1 g5 glt gg (br_f (by decide) (br_f (by decide) (ry_wt (w := true) h16 hb (rE_1 (w := true) E (by omega) (br_f (by decide) (nm_r (nI_1 us) ⟨vv, nm_r (by rw [cv]) (br_f (by decide) (br_f (by decide) ?_))⟩))))))) (fun y => absurd hz y)⟩
      · rw [ha]
        refine nm_r ev (br_f (by decide) (br_f (by decide) (br_f (by decide) (br_f (by decide) (br_t (by decide) (br_f (by decide) ⟨vu, nm_r eu (br_t hz' (rx_bt (w := true) h16 hb (br_t cX (nm_r (fy_s1 a) ⟨a + 1, HX _ ?_⟩))))⟩))))))
        exact rx_kw (w := true) hv H
      · exact nm_r (fy_s1 a) ⟨a + 1, HY _ H⟩
    · have cX : ¬ nI (fq a b) ≤ nI lim - nI p := by rw [esub]; exact nI_ge (by omega) (by omega)
      refine Or.inl ⟨3, nI p, by decide, fun _ => rfl, fun post H => ?_, fun post H => HYin _ (fun _ => ry_120 (w := true) g1 g5 glt gg (br_f (by decide) (br_f (by decide) (ry_wt (w := true) h16 hb (rE_0 (w := true) E hp (by omega) (by omega) (br_t rfl H)))))) (fun y => absurd hz y)⟩
      rw [ha]
      exact nm_r ev (br_f (by decide) (br_f (by decide) (br_f (by decide) (br_f (by decide) (br_t (by decide) (br_f (by decide) ⟨vu, nm_r eu (br_t hz' (rx_bt (w := true) h16 hb (br_f cX H)))⟩))))))
  · have hz' := fun y => hz (hfit.mp y)
    refine Or.inl ⟨4, nI p, by decide, fun _ => rfl, fun post H => ?_, fun post H => HYin _ (fun y => absurd y hz) (fun _ => H)⟩
    rw [ha]
    exact nm_r ev (br_f (by decide) (br_f (by decide) (br_f (by decide) (br_f (by decide) (br_t (by decide) (br_f (by decide) ⟨vu, nm_r eu (br_f hz' H)⟩))))))
end
end
section
/-! scans, and the items that begin and end others -/
section
variable {xic xoc xfc xhf xil xll xol xea xwr xcu xfo xsp xpo xbl xli xvu yic ysz yfd yls ymd ysa ytk ydp yps ybi ysp yus ynx yra yrd : Int32} {iK iA iB xM xO xS FK FA FB FM inp lst out vs xR xL yO yN yS yT : Nat → Int32}
variable {N fd ll i sp p b lim us dp base S : Nat} {w : Bool}
theorem ry_eo (W : fw_Wf FK N) (hN : N ≤ 40) (Z : fw_st FK N = []) (hK : ∀ j, j < N → ∃ c : Nat, c ≤ 13 ∧ FK j = nI c) : ∀ (d j o e : Nat) (u s : List (Nat × Nat)), j + 1 + d = N → fw_st FK (j + 1) = u ++ (o, e) :: s → ∃ t e', j < t ∧ t < N ∧ FK t = 13 ∧ fw_st FK t = (o, e') :: s ∧ (e ≠ 0 → e' = e) ∧ ∀ post : Int32 → Prop, post (nI t) → wY_endOf_4 post yic ysz yfd yls ymd ysa ytk ydp yps ybi ysp yus ynx yra yrd iK iA iB FK FA FB inp lst out vs yO yN yS yT (d + 1) (nI (u.length + 1)) (nI j) := by
  intro d
  induction d with
  | zero =>
    intro j o e u s hj h
    have ej : j + 1 = N := by omega
    rw [ej, Z] at h
    cases u with
    | nil => cases h
    | cons x u => cases h
  | succ d ih =>
    intro j o e u s hj h
    have l4 := fw_len W (j + 1) (by omega)
    rw [h, List.length_append, List.length_cons] at l4
    have vj : vp_in (nI (j + 1)) 40 := vp_in_nI (by omega) (by omega)
    have cj : (nI (j + 1)).toNatClampNeg = j + 1 := nI_clamp (by omega)
    have n0 : ¬ nI (u.length + 1) ≤ 0 := nI_nle (by omega) (by omega)
    have ek : FK (nI (j + 1)).toNatClampNeg = FK (j + 1) := by rw [cj]
    have go : ∀ (post : Int32 → Prop) (A B : Prop), ¬ fw_Op FK (j + 1) → A → ((FK (nI (j + 1)).toNatClampNeg < 4 → A) ∧ (¬ FK (nI (j + 1)).toNatClampNeg < 4 → (vp_in (nI (j + 1)) 40 ∧ ((6 < FK (nI (j + 1)).toNatClampNeg → A) ∧ (¬ 6 < FK (nI (j + 1)).toNatClampNeg → B))))) := by
      intro post A B hn hA
      obtain ⟨c, hc, ec⟩ := hK (j + 1) (by omega)
      have q := fx_no4 hc (by rw [← ec]; exact hn)
      rw [ek, ec]
      rcases q with q | ⟨q1, q2, q3⟩
      · exact br_t q hA
      · exact br_f q1 ⟨vj, br_t q2 hA⟩
    rcases fw_step W (by omega) h with z | z | z | z | z | z
    · obtain ⟨z1, z2⟩ := z
      subst z2
      have x13 : FK (nI (j + 1)).toNatClampNeg = 13 := by rw [ek]; exact z1
      exact ⟨j + 1, e, by omega, by omega, z1, h, fun _ => rfl, fun post H => br_f n0 (nm_r (nI_1 j) ⟨vj, go post _ _ (fw_nop z1 (by decide) (by decide) (by decide)) ⟨vj, br_t x13 (nm_r (pk_m1 0) (br_t (by decide) H))⟩⟩)⟩
    · obtain ⟨z1, x, u', z2, z3⟩ := z
      subst z2
      have x13 : FK (nI (j + 1)).toNatClampNeg = 13 := by rw [ek]; exact z1
      obtain ⟨t, e', a, b, c, d', f, K⟩ := ih (j + 1) o e u' s (by omega) z3
      exact ⟨t, e', by omega, b, c, d', f, fun post H => br_f n0 (nm_r (nI_1 j) ⟨vj, go post _ _ (fw_nop z1 (by decide) (by decide) (by decide)) ⟨vj, br_t x13 (nm_r (pk_m1 (u'.length + 1)) (K post H))⟩⟩)⟩
    · obtain ⟨z1, z3⟩ := z
      obtain ⟨k1, k2, k3, k4, k5⟩ := fx_op4 z1
      obtain ⟨t, e', a, b, c, d', f, K⟩ := ih (j + 1) o e _ s (by omega) z3
      exact ⟨t, e', by omega, b, c, d', f, fun post H => br_f n0 (nm_r (nI_1 j) ⟨vj, br_f (by rw [ek]; exact k1) ⟨vj, br_f (by rw [ek]; exact k2) (nm_r (nI_1 (u.length + 1)) ⟨vj, br_f (by rw [ek]; exact k4) (K post H)⟩)⟩⟩)⟩
    · obtain ⟨z1, z2, z4, z3⟩ := z
      subst z2
      have n13 : ¬ FK (nI (j + 1)).toNatClampNeg = 13 := by rw [ek, z1]; decide
      obtain ⟨t, e', a, b, c, d', f, K⟩ := ih (j + 1) o (j + 1) [] s (by omega) z3
      exact ⟨t, e', by omega, b, c, d', fun y => absurd z4 y, fun post H => br_f n0 (nm_r (nI_1 j) ⟨vj, go post _ _ (fw_nop z1 (by decide) (by decide) (by decide)) ⟨vj, br_f n13 (K post H)⟩⟩)⟩
    · obtain ⟨z1, x, x', u', z2, z3⟩ := z
      subst z2
      have n13 : ¬ FK (nI (j + 1)).toNatClampNeg = 13 := by rw [ek, z1]; decide
      obtain ⟨t, e', a, b, c, d', f, K⟩ := ih (j + 1) o e (x' :: u') s (by omega) z3
      exact ⟨t, e', by omega, b, c, d', f, fun post H => br_f n0 (nm_r (nI_1 j) ⟨vj, go post _ _ (fw_nop z1 (by decide) (by decide) (by decide)) ⟨vj, br_f n13 (K post H)⟩⟩)⟩
    · obtain ⟨z1, z2, z4, z3⟩ := z
      have n13 : ¬ FK (nI (j + 1)).toNatClampNeg = 13 := by rw [ek]; exact z4
      obtain ⟨t, e', a, b, c, d', f, K⟩ := ih (j + 1) o e u s (by omega) z3
      exact ⟨t, e', by omega, b, c, d', f, fun post H => br_f n0 (nm_r (nI_1 j) ⟨vj, go post _ _ z1 ⟨vj, br_f n13 (K post H)⟩⟩)⟩
theorem ry_el (W : fw_Wf FK N) (hN : N ≤ 40) (Z : fw_st FK N = []) (hK : ∀ j, j < N → ∃ c : Nat, c ≤ 13 ∧ FK j = nI c) : ∀ (d j o : Nat) (u s : List (Nat × Nat)), j + 1 + d = N → fw_st FK (j + 1) = u ++ (o, 0) :: s → ∃ t, j < t ∧ t < N ∧ (FK t = 12 ∨ FK t = 13) ∧ fw_st FK t = (o, 0) :: s ∧ ∀ post : Int32 → Prop, post (nI t) → wY_elseOf_4 post yic ysz yfd yls ymd ysa ytk ydp yps ybi ysp yus ynx yra yrd iK iA iB FK FA FB inp lst out vs yO yN yS yT (d + 1) (nI (u.length + 1)) (nI j) := by
  intro d
  induction d with
  | zero =>
    intro j o u s hj h
    have ej : j + 1 = N := by omega
    rw [ej, Z] at h
    cases u with
    | nil => cases h
    | cons x u => cases h
  | succ d ih =>
    intro j o u s hj h
    have l4 := fw_len W (j + 1) (by omega)
    rw [h, List.length_append, List.length_cons] at l4
    have vj : vp_in (nI (j + 1)) 40 := vp_in_nI (by omega) (by omega)
    have cj : (nI (j + 1)).toNatClampNeg = j + 1 := nI_clamp (by omega)
    have n0 : ¬ nI (u.length + 1) ≤ 0 := nI_nle (by omega) (by omega)
    have ek : FK (nI (j + 1)).toNatClampNeg = FK (j + 1) := by rw [cj]
    have go : ∀ (post : Int32 → Prop) (A B : Prop), ¬ fw_Op FK (j + 1) → A → (vp_in (nI (j + 1)) 40 ∧ ((FK (nI (j + 1)).toNatClampNeg < 4 → A) ∧ (¬ FK (nI (j + 1)).toNatClampNeg < 4 → (vp_in (nI (j + 1)) 40 ∧ ((6 < FK (nI (j + 1)).toNatClampNeg → A) ∧ (¬ 6 < FK (nI (j + 1)).toNatClampNeg → B)))))) := by
      intro post A B hn hA
      obtain ⟨c, hc, ec⟩ := hK (j + 1) (by omega)
      have q := fx_no4 hc (by rw [← ec]; exact hn)
      rw [ek, ec]
      rcases q with q | ⟨q1, q2, q3⟩
      · exact ⟨vj, br_t q hA⟩
      · exact ⟨vj, br_f q1 ⟨vj, br_t q2 hA⟩⟩
    rcases fw_step W (by omega) h with z | z | z | z | z | z
    · obtain ⟨z1, z2⟩ := z
      subst z2
      have x13 : FK (nI (j + 1)).toNatClampNeg = 13 := by rw [ek]; exact z1
      have n12 : ¬ FK (nI (j + 1)).toNatClampNeg = 12 := by rw [x13]; decide
      exact ⟨j + 1, by omega, by omega, Or.inr z1, h, fun post H => br_f n0 (nm_r (nI_1 j) ⟨vj, br_f n12 (go post _ _ (fw_nop z1 (by decide) (by decide) (by decide)) ⟨vj, br_t x13 (nm_r (pk_m1 0) (br_t (by decide) H))⟩)⟩)⟩
    · obtain ⟨z1, x, u', z2, z3⟩ := z
      subst z2
      have x13 : FK (nI (j + 1)).toNatClampNeg = 13 := by rw [ek]; exact z1
      have n12 : ¬ FK (nI (j + 1)).toNatClampNeg = 12 := by rw [x13]; decide
      obtain ⟨t, a, b, c, d', K⟩ := ih (j + 1) o u' s (by omega) z3
      exact ⟨t, by omega, b, c, d', fun post H => br_f n0 (nm_r (nI_1 j) ⟨vj, br_f n12 (go post _ _ (fw_nop z1 (by decide) (by decide) (by decide)) ⟨vj, br_t x13 (nm_r (pk_m1 (u'.length + 1)) (K post H))⟩)⟩)⟩
    · obtain ⟨z1, z3⟩ := z
      obtain ⟨k1, k2, k3, k4, k5⟩ := fx_op4 z1
      obtain ⟨t, a, b, c, d', K⟩ := ih (j + 1) o _ s (by omega) z3
      exact ⟨t, by omega, b, c, d', fun post H => br_f n0 (nm_r (nI_1 j) ⟨vj, br_f (by rw [ek]; exact k3) ⟨vj, br_f (by rw [ek]; exact k1) ⟨vj, br_f (by rw [ek]; exact k2) (nm_r (nI_1 (u.length + 1)) ⟨vj, br_f (by rw [ek]; exact k4) (K post H)⟩)⟩⟩⟩)⟩
    · obtain ⟨z1, z2, z4, z3⟩ := z
      subst z2
      have x12 : FK (nI (j + 1)).toNatClampNeg = 12 := by rw [ek]; exact z1
      exact ⟨j + 1, by omega, by omega, Or.inl z1, h, fun post H => br_f n0 (nm_r (nI_1 j) ⟨vj, br_t x12 (br_t (by decide) H)⟩)⟩
    · obtain ⟨z1, x, x', u', z2, z3⟩ := z
      subst z2
      have x12 : FK (nI (j + 1)).toNatClampNeg = 12 := by rw [ek]; exact z1
      have n13 : ¬ FK (nI (j + 1)).toNatClampNeg = 13 := by rw [x12]; decide
      have l4' : u'.length + 1 + (s.length + 1) ≤ 4 := l4
      have n1 : ¬ nI ((x :: u').length + 1) = (1 : Int32) := fun y => by
        have y2 := (nI_eq (a := (x :: u').length + 1) (b := 1) (by rw [List.length_cons]; omega) (by omega)).mp y
        rw [List.length_cons] at y2
        omega
      obtain ⟨t, a, b, c, d', K⟩ := ih (j + 1) o (x' :: u') s (by omega) z3
      exact ⟨t, by omega, b, c, d', fun post H => br_f n0 (nm_r (nI_1 j) ⟨vj, br_t x12 (br_f n1 (go post _ _ (fw_nop z1 (by decide) (by decide) (by decide)) ⟨vj, br_f n13 (K post H)⟩))⟩)⟩
    · obtain ⟨z1, z2, z4, z3⟩ := z
      have n12 : ¬ FK (nI (j + 1)).toNatClampNeg = 12 := by rw [ek]; exact z2
      have n13 : ¬ FK (nI (j + 1)).toNatClampNeg = 13 := by rw [ek]; exact z4
      obtain ⟨t, a, b, c, d', K⟩ := ih (j + 1) o u s (by omega) z3
      exact ⟨t, by omega, b, c, d', fun post H => br_f n0 (nm_r (nI_1 j) ⟨vj, br_f n12 (go post _ _ z1 ⟨vj, br_f n13 (K post H)⟩)⟩)⟩
end
end
section
/-! REPEAT, WHEN, BLOCK, ELSE, END -/
section
variable {xic xoc xfc xhf xil xll xol xea xwr xcu xfo xsp xpo xbl xli xvu yic ysz yfd yls ymd ysa ytk ydp yps ybi ysp yus ynx yra yrd : Int32} {iK iA iB xM xO xS FK FA FB FM inp lst out vs xR xL yO yN yS yT : Nat → Int32}
variable {N fd ll i sp p b lim us dp base S : Nat} {w : Bool}
theorem rs_4 (E : fr_E FK xR xL yO yN N fd lim S i dp w) (G : fw_Good FK FM N) (hK : ∀ j, j < N → ∃ c : Nat, c ≤ 13 ∧ FK j = nI c) (hp : p ≤ lim) (kc : FK i = 4) : (∃ r : Int32, r ≠ 0 ∧ (∀ post : Int32 → SX → Prop, post r (xic, xoc, nI N, xhf, nI fd, nI ll, xol, xea, fw_w w, nI i, nI (i + 1), nI sp, nI p, nI b, nI lim, nI us, iK, iA, iB, xM, xO, xS, FK, FA, FB, FM, inp, lst, out, vs, xR, xL) → wpX_doItem post (xic, xoc, nI N, xhf, nI fd, nI ll, xol, xea, fw_w w, nI i, nI (i + 1), nI sp, nI p, nI b, nI lim, nI us, iK, iA, iB, xM, xO, xS, FK, FA, FB, FM, inp, lst, out, vs, xR, xL) (nI 4) (FA i) (FB i)) ∧ (∀ post : Int32 → SY → Prop, post r (yic, nI N, nI fd, nI ll, ymd, ysa, ytk, nI dp, nI p, nI b, nI sp, nI us, nI (i + 1), yra, fw_r w, iK, iA, iB, FK, FA, FB, inp, lst, out, vs, yO, yN, yS, yT) → wY_item_113 post (nI i) (nI 4) yic (nI N) (nI fd) (nI ll) ymd ysa ytk (nI dp) (nI p) (nI b) (nI sp) (nI us) (nI (i + 1)) yra (fw_r w) iK iA iB FK FA FB inp lst out vs yO yN yS yT)) ∨ (∃ (i' lim' S' dp' : Nat) (xR' xL' yO' yN' : Nat → Int32), i < i' ∧ i' ≤ N ∧ S' ≤ S + 32 ∧ p ≤ lim' ∧ fw_R FK xR' xL' yO' yN' (fw_base w fd) lim' S' (fw_st FK i') ∧ dp' = (fw_st FK i').length ∧ (∀ post : Int32 → SX → Prop, post 0 (xic, xoc, nI N, xhf, nI fd, nI ll, xol, xea, fw_w w, nI i, nI i', nI sp, nI p, nI b, nI lim', nI us, iK, iA, iB, xM, xO, xS, FK, FA, FB, FM, inp, lst, out, vs, xR', xL') → wpX_doItem post (xic, xoc, nI N, xhf, nI fd, nI ll, xol, xea, fw_w w, nI i, nI (i + 1), nI sp, nI p, nI b, nI lim, nI us, iK, iA, iB, xM, xO, xS, FK, FA, FB, FM, inp, lst, out, vs, xR, xL) (nI 4) (FA i) (FB i)) ∧ (∀ post : Int32 → SY → Prop, post 0 (yic, nI N, nI fd, nI ll, ymd, ysa, ytk, nI dp', nI p, nI b, nI sp, nI us, nI i', yra, fw_r w, iK, iA, iB, FK, FA, FB, inp, lst, out, vs, yO', yN', yS, yT) → wY_item_113 post (nI i) (nI 4) yic (nI N) (nI fd) (nI ll) ymd ysa ytk (nI dp) (nI p) (nI b) (nI sp) (nI us) (nI (i + 1)) yra (fw_r w) iK iA iB FK FA FB inp lst out vs yO yN yS yT)) := by
  obtain ⟨hi, hlim, ci, vi⟩ := rE_i E
  obtain ⟨v, hv, ev, vv, cv⟩ := rE_v (FB i)
  have ev' : FB (nI i).toNatClampNeg &&& 7 = nI v := by rw [ci]; exact ev
  obtain ⟨W, hN, hiN, hfd, R, hd, _⟩ := E
  have hop : fw_Op FK i := Or.inl kc
  have hm := fw_mem_lt W i (by omega)
  have hd4 := (W i hiN).1 hop
  have evs : vs (nI v).toNatClampNeg = vs v := by rw [cv]
  have HY : ∀ post : Int32 → SY → Prop, ((fp_in (vs v) 0 32 = 0 → post 4 (yic, nI N, nI fd, nI ll, ymd, ysa, ytk, nI dp, nI p, nI b, nI sp, nI us, nI (i + 1), yra, fw_r w, iK, iA, iB, FK, FA, FB, inp, lst, out, vs, yO, yN, yS, yT)) ∧ (¬ fp_in (vs v) 0 32 = 0 → wY_begin_24 (fun r u => match u with | (yic, ysz, yfd, yls, ymd, ysa, ytk, ydp, yps, ybi, ysp, yus, ynx, yra, yrd, yK, yA, yB, zK, zA, zB, yin, ylst, yout, yvs, yO, yN, yS, yT) => post r (yic, ysz, yfd, yls, ymd, ysa, ytk, ydp, yps, ybi, ysp, yus, ynx, yra, yrd, yK, yA, yB, zK, zA, zB, yin, ylst, yout, yvs, yO, yN, yS, yT)) (nI i) (nI 4) (vs v) yic (nI N) (nI fd) (nI ll) ymd ysa ytk (nI dp) (nI p) (nI b) (nI sp) (nI us) (nI (i + 1)) yra (fw_r w) iK iA iB FK FA FB inp lst out vs yO yN yS yT)) → wY_item_113 post (nI i) (nI 4) yic (nI N) (nI fd) (nI ll) ymd ysa ytk (nI dp) (nI p) (nI b) (nI sp) (nI us) (nI (i + 1)) yra (fw_r w) iK iA iB FK FA FB inp lst out vs yO yN yS yT := by
    intro post H
    exact ⟨vi, nm_r ev' (br_t (by decide) (br_f (by decide) (br_f (by decide) ⟨vv, nm_r evs (br_t (by decide) (fp_w H))⟩)))⟩
  have HX : ∀ post : Int32 → SX → Prop, wpX_enterRepeat (fun r u => match u with | (xic, xoc, xfc, xhf, xil, xll, xol, xea, xwr, xcu, xfo, xsp, xpo, xbl, xli, xvu, iK, iA, iB, xM, xO, xS, FK, FA, FB, FM, inp, lst, out, vs, xR, xL) => post r (xic, xoc, xfc, xhf, xil, xll, xol, xea, xwr, xcu, xfo, xsp, xpo, xbl, xli, xvu, iK, iA, iB, xM, xO, xS, FK, FA, FB, FM, inp, lst, out, vs, xR, xL)) (xic, xoc, nI N, xhf, nI fd, nI ll, xol, xea, fw_w w, nI i, nI (i + 1), nI sp, nI p, nI b, nI lim, nI us, iK, iA, iB, xM, xO, xS, FK, FA, FB, FM, inp, lst, out, vs, xR, xL) (vs v) → wpX_doItem post (xic, xoc, nI N, xhf, nI fd, nI ll, xol, xea, fw_w w, nI i, nI (i + 1), nI sp, nI p, nI b, nI lim, nI us, iK, iA, iB, xM, xO, xS, FK, FA, FB, FM, inp, lst, out, vs, xR, xL) (nI 4) (FA i) (FB i) := by
    intro post H
    refine nm_r ev (br_f (by decide) (br_f (by decide) (br_f (by decide) (br_f (by decide) (br_f (by decide) (br_f (by decide) (br_t (by decide) (⟨vv, ?_⟩))))))))
    rw [evs]
    exact H
  by_cases c0 : vs v < 0
  · have e : fp_in (vs v) 0 32 = 0 := by unfold fp_in; rw [if_pos c0]
    exact Or.inl ⟨4, by decide, fun post H => HX _ (br_t c0 H), fun post H => HY _ (br_t e H)⟩
  · by_cases c32 : vs v ≤ 32
    · obtain ⟨x, hx, ex⟩ := nI_of2 (n := 32) (by decide) c0 c32
      have c32' : ¬ 32 < vs v := Int32.not_lt.mpr c32
      have e : ¬ fp_in (vs v) 0 32 = 0 := by unfold fp_in; rw [if_neg c0, if_neg c32']; decide
      rw [ex] at HX HY e c0 c32
      by_cases hx0 : x = 0
      · subst hx0
        obtain ⟨t, e', t1, t2, t3, t4, t5, K⟩ := ry_eo W hN G.2.1 hK (N - (i + 1)) i i 0 [] (fw_st FK i) (by omega) (fw_st_op hop) (yic := yic) (ysz := nI N) (yfd := nI fd) (yls := nI ll) (ymd := ymd) (ysa := ysa) (ytk := ytk) (ydp := nI dp) (yps := nI p) (ybi := nI b) (ysp := nI sp) (yus := nI us) (ynx := nI (i + 1)) (yra := yra) (yrd := fw_r w) (iK := iK) (iA := iA) (iB := iB) (FA := FA) (FB := FB) (inp := inp) (lst := lst) (out := out) (vs := vs) (yO := yO) (yN := yN) (yS := yS) (yT := yT)
        obtain ⟨m1, m2, m3⟩ := G.2.2 t t2 t3 i e' _ t4
        have h3 := (fw_hd W t (by omega) i e' _ t4).2.2.1
        have he : e' = 0 := by
          rcases h3 with h3 | h3
          · exact h3
          · exact absurd (kc.symm.trans h3.2.2.2.1) (by decide)
        have em : FM (nI i).toNatClampNeg + 1 = nI (t + 1) := by rw [ci, m2 he]; exact nI_1 t
        have hst : fw_st FK (t + 1) = fw_st FK i := fw_st_en t3 t4
        refine Or.inr ⟨t + 1, lim, S, dp, upd xR i (nI 0), xL, yO, yN, by omega, by omega, by omega, hp, by rw [hst]; exact fw_R_0 _ R hm, by rw [hst]; exact hd, fun post H => HX _ (br_f c0 (br_t c32 ⟨vi, nm_r (by rw [ci]) (br_t rfl ⟨vi, nm_r em H⟩)⟩)), fun post H => HY _ (br_f e (br_f (by decide) (br_f (by decide) (br_t (by decide) (br_t rfl ⟨N - (i + 1) + 1, K _ (nm_r (nI_1 t) H)⟩)))))⟩
      · have x0 : ¬ nI x = 0 := nI_ne0 (by omega) (by omega)
        have vd : vp_in (nI dp) 5 := vp_in_nI (by omega) (by omega)
        have cd : (nI dp).toNatClampNeg = dp := nI_clamp (by omega)
        have hst := fw_st_op hop
        refine Or.inr ⟨i + 1, lim, S + x, dp + 1, upd xR i (nI x), xL, upd yO dp (nI i), upd yN dp (nI x), by omega, by omega, by omega, hp, ?_, by rw [hst, List.length_cons, hd], fun post H => HX _ (br_f c0 (br_t c32 ⟨vi, nm_r (by rw [ci]) (br_f x0 H)⟩)), fun post H => HY _ (br_f e (br_f (by decide) (br_f (by decide) (br_t (by decide) (br_f x0 ⟨vd, nm_r (by rw [cd]) (nm_r (nI_1 dp) (br_f (by decide) ⟨vd, nm_r (by rw [cd]) (br_f (by decide) H)⟩))⟩)))))⟩
        rw [hst, hd]
        exact fw_R_p4 R hm kc (by omega) hx
    · have c32' : 32 < vs v := Int32.not_le.mp c32
      have e : fp_in (vs v) 0 32 = 0 := by unfold fp_in; rw [if_neg c0, if_pos c32']
      exact Or.inl ⟨4, by decide, fun post H => HX _ (br_f c0 (br_f c32 H)), fun post H => HY _ (br_t e H)⟩
theorem rs_6 (E : fr_E FK xR xL yO yN N fd lim S i dp w) (hp : p ≤ lim) (kc : FK i = 6) : (∃ r : Int32, r ≠ 0 ∧ (∀ post : Int32 → SX → Prop, post r (xic, xoc, nI N, xhf, nI fd, nI ll, xol, xea, fw_w w, nI i, nI (i + 1), nI sp, nI p, nI b, nI lim, nI us, iK, iA, iB, xM, xO, xS, FK, FA, FB, FM, inp, lst, out, vs, xR, xL) → wpX_doItem post (xic, xoc, nI N, xhf, nI fd, nI ll, xol, xea, fw_w w, nI i, nI (i + 1), nI sp, nI p, nI b, nI lim, nI us, iK, iA, iB, xM, xO, xS, FK, FA, FB, FM, inp, lst, out, vs, xR, xL) (nI 6) (FA i) (FB i)) ∧ (∀ post : Int32 → SY → Prop, post r (yic, nI N, nI fd, nI ll, ymd, ysa, ytk, nI dp, nI p, nI b, nI sp, nI us, nI (i + 1), yra, fw_r w, iK, iA, iB, FK, FA, FB, inp, lst, out, vs, yO, yN, yS, yT) → wY_item_113 post (nI i) (nI 6) yic (nI N) (nI fd) (nI ll) ymd ysa ytk (nI dp) (nI p) (nI b) (nI sp) (nI us) (nI (i + 1)) yra (fw_r w) iK iA iB FK FA FB inp lst out vs yO yN yS yT)) ∨ (∃ (i' lim' S' dp' : Nat) (xR' xL' yO' yN' : Nat → Int32), i < i' ∧ i' ≤ N ∧ S' ≤ S + 32 ∧ p ≤ lim' ∧ fw_R FK xR' xL' yO' yN' (fw_base w fd) lim' S' (fw_st FK i') ∧ dp' = (fw_st FK i').length ∧ (∀ post : Int32 → SX → Prop, post 0 (xic, xoc, nI N, xhf, nI fd, nI ll, xol, xea, fw_w w, nI i, nI i', nI sp, nI p, nI b, nI lim', nI us, iK, iA, iB, xM, xO, xS, FK, FA, FB, FM, inp, lst, out, vs, xR', xL') → wpX_doItem post (xic, xoc, nI N, xhf, nI fd, nI ll, xol, xea, fw_w w, nI i, nI (i + 1), nI sp, nI p, nI b, nI lim, nI us, iK, iA, iB, xM, xO, xS, FK, FA, FB, FM, inp, lst, out, vs, xR, xL) (nI 6) (FA i) (FB i)) ∧ (∀ post : Int32 → SY → Prop, post 0 (yic, nI N, nI fd, nI ll, ymd, ysa, ytk, nI dp', nI p, nI b, nI sp, nI us, nI i', yra, fw_r w, iK, iA, iB, FK, FA, FB, inp, lst, out, vs, yO', yN', yS, yT) → wY_item_113 post (nI i) (nI 6) yic (nI N) (nI fd) (nI ll) ymd ysa ytk (nI dp) (nI p) (nI b) (nI sp) (nI us) (nI (i + 1)) yra (fw_r w) iK iA iB FK FA FB inp lst out vs yO yN yS yT)) := by
  have E0 := E
  obtain ⟨hi, hlim, ci, vi⟩ := rE_i E
  obtain ⟨v, hv, ev, vv, cv⟩ := rE_v (FB i)
  have ev' : FB (nI i).toNatClampNeg &&& 7 = nI v := by rw [ci]; exact ev
  obtain ⟨W, hN, hiN, hfd, R, hd, _⟩ := E
  have hop : fw_Op FK i := Or.inr (Or.inr kc)
  have hm := fw_mem_lt W i (by omega)
  have hd4 := (W i hiN).1 hop
  have evs : vs (nI v).toNatClampNeg = vs v := by rw [cv]
  have HY : ∀ post : Int32 → SY → Prop, wY_begin_24 (fun r u => match u with | (yic, ysz, yfd, yls, ymd, ysa, ytk, ydp, yps, ybi, ysp, yus, ynx, yra, yrd, yK, yA, yB, zK, zA, zB, yin, ylst, yout, yvs, yO, yN, yS, yT) => post r (yic, ysz, yfd, yls, ymd, ysa, ytk, ydp, yps, ybi, ysp, yus, ynx, yra, yrd, yK, yA, yB, zK, zA, zB, yin, ylst, yout, yvs, yO, yN, yS, yT)) (nI i) (nI 6) (vs v) yic (nI N) (nI fd) (nI ll) ymd ysa ytk (nI dp) (nI p) (nI b) (nI sp) (nI us) (nI (i + 1)) yra (fw_r w) iK iA iB FK FA FB inp lst out vs yO yN yS yT → wY_item_113 post (nI i) (nI 6) yic (nI N) (nI fd) (nI ll) ymd ysa ytk (nI dp) (nI p) (nI b) (nI sp) (nI us) (nI (i + 1)) yra (fw_r w) iK iA iB FK FA FB inp lst out vs yO yN yS yT := by
    intro post H
    exact ⟨vi, nm_r ev' (br_t (by decide) (br_f (by decide) (br_f (by decide) ⟨vv, nm_r evs (br_f (by decide) H)⟩)))⟩
  have HX : ∀ post : Int32 → SX → Prop, wpX_enterBlock (fun r u => match u with | (xic, xoc, xfc, xhf, xil, xll, xol, xea, xwr, xcu, xfo, xsp, xpo, xbl, xli, xvu, iK, iA, iB, xM, xO, xS, FK, FA, FB, FM, inp, lst, out, vs, xR, xL) => post r (xic, xoc, xfc, xhf, xil, xll, xol, xea, xwr, xcu, xfo, xsp, xpo, xbl, xli, xvu, iK, iA, iB, xM, xO, xS, FK, FA, FB, FM, inp, lst, out, vs, xR, xL)) (xic, xoc, nI N, xhf, nI fd, nI ll, xol, xea, fw_w w, nI i, nI (i + 1), nI sp, nI p, nI b, nI lim, nI us, iK, iA, iB, xM, xO, xS, FK, FA, FB, FM, inp, lst, out, vs, xR, xL) (vs v) → wpX_doItem post (xic, xoc, nI N, xhf, nI fd, nI ll, xol, xea, fw_w w, nI i, nI (i + 1), nI sp, nI p, nI b, nI lim, nI us, iK, iA, iB, xM, xO, xS, FK, FA, FB, FM, inp, lst, out, vs, xR, xL) (nI 6) (FA i) (FB i) := by
    intro post H
    refine nm_r ev (br_f (by decide) (br_f (by decide) (br_f (by decide) (br_f (by decide) (br_f (by decide) (br_f (by decide) (br_f (by decide) (br_f (by decide) (br_t (by decide) (⟨vv, ?_⟩))))))))))
    rw [evs]
    exact H
  by_cases c0 : 0 ≤ vs v
  · obtain ⟨x, hx, ex⟩ := nI_of (x := vs v) (Int32.not_lt.mpr c0)
    rw [ex] at HX HY c0
    have esub : nI lim - nI p = nI (lim - p) := pk_sub hp
    by_cases h : p + x ≤ lim
    · have cX : nI x ≤ nI lim - nI p := by rw [esub]; exact nI_le (by omega) (by omega)
      have vd : vp_in (nI dp) 5 := vp_in_nI (by omega) (by omega)
      have cd : (nI dp).toNatClampNeg = dp := nI_clamp (by omega)
      have hst := fw_st_op hop
      refine Or.inr ⟨i + 1, p + x, S, dp + 1, xR, upd xL i (nI lim), upd yO dp (nI i), upd yN dp (nI (p + x)), by omega, by omega, by omega, by omega, ?_, by rw [hst, List.length_cons, hd], fun post H => HX _ (br_t c0 (br_t cX ⟨vi, nm_r (by rw [ci]) (nm_r (nI_add p x) H)⟩)), fun post H => HY _ (br_t (by decide) (br_t c0 (br_t (by decide) (rE_1 E0 h (br_f (by decide) (br_f (by decide) ⟨vd, nm_r (by rw [cd]) (nm_r (nI_1 dp) (br_t (by decide) ⟨vd, nm_r (by rw [cd, nI_add]) (br_f (by decide) H)⟩))⟩))))))⟩
      rw [hst, hd]
      exact fw_R_p6 R hm kc h
    · have cX : ¬ nI x ≤ nI lim - nI p := by rw [esub]; exact nI_ge (by omega) (by omega)
      exact Or.inl ⟨3, by decide, fun post H => HX _ (br_t c0 (br_f cX H)), fun post H => HY _ (br_t (by decide) (br_t c0 (br_t (by decide) (rE_0 E0 hp (by omega) (by omega) (br_t rfl H)))))⟩
  · exact Or.inl ⟨4, by decide, fun post H => HX _ (br_f c0 H), fun post H => HY _ (br_t (by decide) (br_f c0 H))⟩
/-- the END of a WHEN, on the side that comes to it after a way not gone -/
theorem rs_5e {post : Int32 → SY → Prop} {t : Nat} {m : Int32} (ht : t < 40) (hi : i < 40) (hd4 : dp < 4) (kc : FK i = 5) (kt : FK t = 13) (H : post 0 (yic, nI N, nI fd, nI ll, ymd, ysa, ytk, nI dp, nI p, nI b, nI sp, nI us, nI (t + 1), nI p, fw_r w, iK, iA, iB, FK, FA, FB, inp, lst, out, vs, upd yO dp (nI i), upd yN dp m, yS, yT)) : wpY_item post (yic, nI N, nI fd, nI ll, ymd, ysa, ytk, nI (dp + 1), nI p, nI b, nI sp, nI us, nI (t + 1), nI p, fw_r w, iK, iA, iB, FK, FA, FB, inp, lst, out, vs, upd yO dp (nI i), upd yN dp m, yS, yT) (nI t) := by
  have ct : FK (nI t).toNatClampNeg = 13 := by rw [nI_clamp (by omega)]; exact kt
  have em : nI (dp + 1) - 1 = nI dp := nI_pred dp
  have vd : vp_in (nI dp) 5 := vp_in_nI (by omega) (by omega)
  have cd : (nI dp).toNatClampNeg = dp := nI_clamp (by omega)
  have eo : upd yO dp (nI i) (nI dp).toNatClampNeg = nI i := by rw [cd, pk_us]
  have vo : vp_in (upd yO dp (nI i) (nI dp).toNatClampNeg) 40 := by rw [eo]; exact vp_in_nI hi (by omega)
  have ek : FK (upd yO dp (nI i) (nI dp).toNatClampNeg).toNatClampNeg = 5 := by rw [eo, nI_clamp (by omega)]; exact kc
  exact ⟨vp_in_nI ht (by omega), nm_r ct (br_t rfl (nm_r em ⟨vd, vo, nm_r ek (br_f (by decide) (br_f (by decide) (nm_r em H)))⟩))⟩
theorem rs_5 (E : fr_E FK xR xL yO yN N fd lim S i dp w) (G : fw_Good FK FM N) (hK : ∀ j, j < N → ∃ c : Nat, c ≤ 13 ∧ FK j = nI c) (hp : p ≤ lim) (kc : FK i = 5) : ((∃ r : Int32, r ≠ 0 ∧ (∀ post : Int32 → SX → Prop, post r (xic, xoc, nI N, xhf, nI fd, nI ll, xol, xea, fw_w w, nI i, nI (i + 1), nI sp, nI p, nI b, nI lim, nI us, iK, iA, iB, xM, xO, xS, FK, FA, FB, FM, inp, lst, out, vs, xR, xL) → wpX_doItem post (xic, xoc, nI N, xhf, nI fd, nI ll, xol, xea, fw_w w, nI i, nI (i + 1), nI sp, nI p, nI b, nI lim, nI us, iK, iA, iB, xM, xO, xS, FK, FA, FB, FM, inp, lst, out, vs, xR, xL) (nI 5) (FA i) (FB i)) ∧ (∀ post : Int32 → SY → Prop, post r (yic, nI N, nI fd, nI ll, ymd, ysa, ytk, nI dp, nI p, nI b, nI sp, nI us, nI (i + 1), yra, fw_r w, iK, iA, iB, FK, FA, FB, inp, lst, out, vs, yO, yN, yS, yT) → wY_item_113 post (nI i) (nI 5) yic (nI N) (nI fd) (nI ll) ymd ysa ytk (nI dp) (nI p) (nI b) (nI sp) (nI us) (nI (i + 1)) yra (fw_r w) iK iA iB FK FA FB inp lst out vs yO yN yS yT)) ∨ (∃ (i' lim' S' dp' : Nat) (xR' xL' yO' yN' : Nat → Int32), i < i' ∧ i' ≤ N ∧ S' ≤ S + 32 ∧ p ≤ lim' ∧ fw_R FK xR' xL' yO' yN' (fw_base w fd) lim' S' (fw_st FK i') ∧ dp' = (fw_st FK i').length ∧ (∀ post : Int32 → SX → Prop, post 0 (xic, xoc, nI N, xhf, nI fd, nI ll, xol, xea, fw_w w, nI i, nI i', nI sp, nI p, nI b, nI lim', nI us, iK, iA, iB, xM, xO, xS, FK, FA, FB, FM, inp, lst, out, vs, xR', xL') → wpX_doItem post (xic, xoc, nI N, xhf, nI fd, nI ll, xol, xea, fw_w w, nI i, nI (i + 1), nI sp, nI p, nI b, nI lim, nI us, iK, iA, iB, xM, xO, xS, FK, FA, FB, FM, inp, lst, out, vs, xR, xL) (nI 5) (FA i) (FB i)) ∧ (∀ post : Int32 → SY → Prop, post 0 (yic, nI N, nI fd, nI ll, ymd, ysa, ytk, nI dp', nI p, nI b, nI sp, nI us, nI i', yra, fw_r w, iK, iA, iB, FK, FA, FB, inp, lst, out, vs, yO', yN', yS, yT) → wY_item_113 post (nI i) (nI 5) yic (nI N) (nI fd) (nI ll) ymd ysa ytk (nI dp) (nI p) (nI b) (nI sp) (nI us) (nI (i + 1)) yra (fw_r w) iK iA iB FK FA FB inp lst out vs yO yN yS yT))) ∨ (∃ (t : Nat) (m : Int32), i < t ∧ t < N ∧ FK t = 13 ∧ dp < 4 ∧ fw_st FK (t + 1) = fw_st FK i ∧ fw_R FK xR xL (upd yO dp (nI i)) (upd yN dp m) (fw_base w fd) lim S (fw_st FK i) ∧ (∀ post : Int32 → SX → Prop, post 0 (xic, xoc, nI N, xhf, nI fd, nI ll, xol, xea, fw_w w, nI i, nI (t + 1), nI sp, nI p, nI b, nI lim, nI us, iK, iA, iB, xM, xO, xS, FK, FA, FB, FM, inp, lst, out, vs, xR, xL) → wpX_doItem post (xic, xoc, nI N, xhf, nI fd, nI ll, xol, xea, fw_w w, nI i, nI (i + 1), nI sp, nI p, nI b, nI lim, nI us, iK, iA, iB, xM, xO, xS, FK, FA, FB, FM, inp, lst, out, vs, xR, xL) (nI 5) (FA i) (FB i)) ∧ (∀ post : Int32 → SY → Prop, post 0 (yic, nI N, nI fd, nI ll, ymd, ysa, ytk, nI (dp + 1), nI p, nI b, nI sp, nI us, nI t, yra, fw_r w, iK, iA, iB, FK, FA, FB, inp, lst, out, vs, upd yO dp (nI i), upd yN dp m, yS, yT) → wY_item_113 post (nI i) (nI 5) yic (nI N) (nI fd) (nI ll) ymd ysa ytk (nI dp) (nI p) (nI b) (nI sp) (nI us) (nI (i + 1)) yra (fw_r w) iK iA iB FK FA FB inp lst out vs yO yN yS yT)) := by
  obtain ⟨hi, hlim, ci, vi⟩ := rE_i E
  obtain ⟨v, hv, ev, vv, cv⟩ := rE_v (FB i)
  have ev' : FB (nI i).toNatClampNeg &&& 7 = nI v := by rw [ci]; exact ev
  obtain ⟨W, hN, hiN, hfd, R, hd, _⟩ := E
  have hop : fw_Op FK i := Or.inr (Or.inl kc)
  have hm := fw_mem_lt W i (by omega)
  have hd4 := (W i hiN).1 hop
  rw [← hd] at hd4
  have evs : vs (nI v).toNatClampNeg = vs v := by rw [cv]
  have vd : vp_in (nI dp) 5 := vp_in_nI (by omega) (by omega)
  have cd : (nI dp).toNatClampNeg = dp := nI_clamp (by omega)
  have ea : FA (nI i).toNatClampNeg = FA i := by rw [ci]
  have HY : ∀ post : Int32 → SY → Prop, ((vs v = FA i → post 0 (yic, nI N, nI fd, nI ll, ymd, ysa, ytk, nI (dp + 1), nI p, nI b, nI sp, nI us, nI (i + 1), yra, fw_r w, iK, iA, iB, FK, FA, FB, inp, lst, out, vs, upd yO dp (nI i), upd yN dp (vs v), yS, yT)) ∧ (¬ vs v = FA i → wpY_elseOf (fun r_16 => vp_in r_16 40 ∧ ((FK r_16.toNatClampNeg = 12 → ∀ y, y = r_16 + 1 → post 0 (yic, nI N, nI fd, nI ll, ymd, ysa, ytk, nI (dp + 1), nI p, nI b, nI sp, nI us, y, yra, fw_r w, iK, iA, iB, FK, FA, FB, inp, lst, out, vs, upd yO dp (nI i), upd yN dp (vs v), yS, yT)) ∧ (¬ FK r_16.toNatClampNeg = 12 → post 0 (yic, nI N, nI fd, nI ll, ymd, ysa, ytk, nI (dp + 1), nI p, nI b, nI sp, nI us, r_16, yra, fw_r w, iK, iA, iB, FK, FA, FB, inp, lst, out, vs, upd yO dp (nI i), upd yN dp (vs v), yS, yT)))) (yic, nI N, nI fd, nI ll, ymd, ysa, ytk, nI (dp + 1), nI p, nI b, nI sp, nI us, nI (i + 1), yra, fw_r w, iK, iA, iB, FK, FA, FB, inp, lst, out, vs, upd yO dp (nI i), upd yN dp (vs v), yS, yT) (nI i))) → wY_item_113 post (nI i) (nI 5) yic (nI N) (nI fd) (nI ll) ymd ysa ytk (nI dp) (nI p) (nI b) (nI sp) (nI us) (nI (i + 1)) yra (fw_r w) iK iA iB FK FA FB inp lst out vs yO yN yS yT := by
    intro post H
    refine ⟨vi, nm_r ev' (br_t (by decide) (br_f (by decide) (br_f (by decide) ⟨vv, nm_r evs (br_f (by decide) (br_f (by decide) (br_f (by decide) (br_f (by decide) ⟨vd, nm_r (by rw [cd]) (nm_r (nI_1 dp) (br_f (by decide) ⟨vd, nm_r (by rw [cd]) (br_t (by decide) ⟨vi, ?_⟩)⟩))⟩))))⟩)))⟩
    rw [ea]
    exact H
  have HX : ∀ post : Int32 → SX → Prop, ((vs v = FA i → post 0 (xic, xoc, nI N, xhf, nI fd, nI ll, xol, xea, fw_w w, nI i, nI (i + 1), nI sp, nI p, nI b, nI lim, nI us, iK, iA, iB, xM, xO, xS, FK, FA, FB, FM, inp, lst, out, vs, xR, xL)) ∧ (¬ vs v = FA i → ∀ y, y = FM i + 1 → post 0 (xic, xoc, nI N, xhf, nI fd, nI ll, xol, xea, fw_w w, nI i, y, nI sp, nI p, nI b, nI lim, nI us, iK, iA, iB, xM, xO, xS, FK, FA, FB, FM, inp, lst, out, vs, xR, xL))) → wpX_doItem post (xic, xoc, nI N, xhf, nI fd, nI ll, xol, xea, fw_w w, nI i, nI (i + 1), nI sp, nI p, nI b, nI lim, nI us, iK, iA, iB, xM, xO, xS, FK, FA, FB, FM, inp, lst, out, vs, xR, xL) (nI 5) (FA i) (FB i) := by
    intro post H
    refine nm_r ev (br_f (by decide) (br_f (by decide) (br_f (by decide) (br_f (by decide) (br_f (by decide) (br_f (by decide) (br_f (by decide) (br_t (by decide) (⟨vv, ?_⟩)))))))))
    rw [evs, ci]
    exact ⟨fun z => nm_r (nI_1 i) (H.1 z), fun z => ⟨vi, H.2 z⟩⟩
  have hst := fw_st_op hop
  by_cases c : vs v = FA i
  · refine Or.inl (Or.inr ⟨i + 1, lim, S, dp + 1, xR, xL, upd yO dp (nI i), upd yN dp (vs v), by omega, by omega, by omega, hp, ?_, by rw [hst, List.length_cons, hd], fun post H => HX _ (br_t c H), fun post H => HY _ (br_t c H)⟩)
    rw [hst, hd]
    exact fw_R_p5 R hm kc
  · obtain ⟨t, t1, t2, t3, t4, K⟩ := ry_el W hN G.2.1 hK (N - (i + 1)) i i [] (fw_st FK i) (by omega) hst (yic := yic) (ysz := nI N) (yfd := nI fd) (yls := nI ll) (ymd := ymd) (ysa := ysa) (ytk := ytk) (ydp := nI (dp + 1)) (yps := nI p) (ybi := nI b) (ysp := nI sp) (yus := nI us) (ynx := nI (i + 1)) (yra := yra) (yrd := fw_r w) (iK := iK) (iA := iA) (iB := iB) (FA := FA) (FB := FB) (inp := inp) (lst := lst) (out := out) (vs := vs) (yO := upd yO dp (nI i)) (yN := upd yN dp (vs v)) (yS := yS) (yT := yT)
    have vt : vp_in (nI t) 40 := vp_in_nI (by omega) (by omega)
    have ct : (nI t).toNatClampNeg = t := nI_clamp (by omega)
    rcases t3 with t3 | t3
    · obtain ⟨t', g1, g2, g3, g4, g5, g6, g7⟩ := fw_G_el G t2 t3 t4
      have em : FM i + 1 = nI (t + 1) := by rw [g7]; exact nI_1 t
      have hst2 := fw_st_el t3 t4
      refine Or.inl (Or.inr ⟨t + 1, lim, S, dp + 1, xR, xL, upd yO dp (nI i), upd yN dp (vs v), by omega, by omega, by omega, hp, ?_, by rw [hst2, List.length_cons, hd], fun post H => HX _ (br_f c (nm_r em H)), fun post H => HY _ (br_f c ⟨N - (i + 1) + 1, K _ ⟨vt, br_t (by rw [ct]; exact t3) (nm_r (nI_1 t) H)⟩⟩)⟩)
      rw [hst2, hd]
      exact fw_R_p5 R hm kc
    · obtain ⟨m1, m2, m3⟩ := G.2.2 t t2 t3 i 0 _ t4
      have em : FM i + 1 = nI (t + 1) := by rw [m2 rfl]; exact nI_1 t
      have n12 : ¬ FK (nI t).toNatClampNeg = 12 := by rw [ct, t3]; decide
      refine Or.inr ⟨t, vs v, t1, t2, t3, hd4, fw_st_en t3 t4, ?_, fun post H => HX _ (br_f c (nm_r em H)), fun post H => HY _ (br_f c ⟨N - (i + 1) + 1, K _ ⟨vt, br_f n12 H⟩⟩)⟩
      rw [hd]
      exact fw_R_keep R hm (fw_id _ _) (fw_id _ _) (fw_un _ _ _) (fw_un _ _ _)
end
end
section
/-! ELSE and END -/
section
variable {xic xoc xfc xhf xil xll xol xea xwr xcu xfo xsp xpo xbl xli xvu yic ysz yfd yls ymd ysa ytk ydp yps ybi ysp yus ynx yra yrd : Int32} {iK iA iB xM xO xS FK FA FB FM inp lst out vs xR xL yO yN yS yT : Nat → Int32}
variable {N fd ll i sp p b lim us dp base S : Nat} {w : Bool}
theorem rs_12 (E : fr_E FK xR xL yO yN N fd lim S i dp w) (G : fw_Good FK FM N) (hK : ∀ j, j < N → ∃ c : Nat, c ≤ 13 ∧ FK j = nI c) (kc : FK i = 12) : ∃ i' : Nat, i < i' ∧ i' ≤ N ∧ fw_R FK xR xL yO yN (fw_base w fd) lim S (fw_st FK i') ∧ dp = (fw_st FK i').length ∧ (∀ post : Int32 → SX → Prop, post 0 (xic, xoc, nI N, xhf, nI fd, nI ll, xol, xea, fw_w w, nI i, nI i', nI sp, nI p, nI b, nI lim, nI us, iK, iA, iB, xM, xO, xS, FK, FA, FB, FM, inp, lst, out, vs, xR, xL) → wpX_doItem post (xic, xoc, nI N, xhf, nI fd, nI ll, xol, xea, fw_w w, nI i, nI (i + 1), nI sp, nI p, nI b, nI lim, nI us, iK, iA, iB, xM, xO, xS, FK, FA, FB, FM, inp, lst, out, vs, xR, xL) (nI 12) (FA i) (FB i)) ∧ (∀ post : Int32 → SY → Prop, post 0 (yic, nI N, nI fd, nI ll, ymd, ysa, ytk, nI dp, nI p, nI b, nI sp, nI us, nI i', yra, fw_r w, iK, iA, iB, FK, FA, FB, inp, lst, out, vs, yO, yN, yS, yT) → wpY_item post (yic, nI N, nI fd, nI ll, ymd, ysa, ytk, nI dp, nI p, nI b, nI sp, nI us, nI (i + 1), yra, fw_r w, iK, iA, iB, FK, FA, FB, inp, lst, out, vs, yO, yN, yS, yT) (nI i)) := by
  obtain ⟨hi, hlim, ci, vi⟩ := rE_i E
  obtain ⟨v, hv, ev, vv, cv⟩ := rE_v (FB i)
  obtain ⟨W, hN, hiN, hfd, R, hd, _⟩ := E
  obtain ⟨o, s, hs, ho5⟩ := (W i hiN).2.1 kc
  have hst := fw_st_el kc hs
  obtain ⟨a1, a2, a3, a4⟩ := fw_hd W i (by omega) o 0 s hs
  obtain ⟨t, e', t1, t2, t3, t4, t5, K⟩ := ry_eo W hN G.2.1 hK (N - (i + 1)) i o i [] s (by omega) hst (yic := yic) (ysz := nI N) (yfd := nI fd) (yls := nI ll) (ymd := ymd) (ysa := ysa) (ytk := ytk) (ydp := nI dp) (yps := nI p) (ybi := nI b) (ysp := nI sp) (yus := nI us) (ynx := nI (i + 1)) (yra := yra) (yrd := fw_r w) (iK := iK) (iA := iA) (iB := iB) (FA := FA) (FB := FB) (inp := inp) (lst := lst) (out := out) (vs := vs) (yO := yO) (yN := yN) (yS := yS) (yT := yT)
  rw [t5 (by omega)] at t4
  obtain ⟨m1, m2, m3⟩ := G.2.2 t t2 t3 o i s t4
  have em : FM (nI i).toNatClampNeg = nI t := by rw [ci]; exact (m3 (by omega)).2
  have ek : FK (nI i).toNatClampNeg = 12 := by rw [ci]; exact kc
  rw [hs] at R hd
  refine ⟨t, t1, by omega, ?_, by rw [t4]; exact hd, fun post H => nm_r ev (br_f (by decide) (br_f (by decide) (br_f (by decide) (br_f (by decide) (br_f (by decide) (br_f (by decide) (br_f (by decide) (br_f (by decide) (br_f (by decide) (br_f (by decide) (br_f (by decide) (br_f (by decide) (br_f (by decide) (br_f (by decide) (br_t (by decide) (⟨vi, nm_r em H⟩)))))))))))))))), fun post H => ⟨vi, nm_r ek (br_f (by decide) (br_t rfl ⟨N - (i + 1) + 1, K _ H⟩))⟩⟩
  rw [t4]
  exact fw_R_e i R
theorem rs_13 (E : fr_E FK xR xL yO yN N fd lim S i dp w) (G : fw_Good FK FM N) (hp : p ≤ lim) (hb : b ≤ 7) (hbp : 0 < b → 0 < p) (kc : FK i = 13) : (∃ (r : Int32) (b' : Nat), r ≠ 0 ∧ b' ≤ 7 ∧ (0 < b' → 0 < p) ∧ (∀ post : Int32 → SX → Prop, post r (xic, xoc, nI N, xhf, nI fd, nI ll, xol, xea, fw_w w, nI i, nI (i + 1), nI sp, nI p, nI b', nI lim, nI us, iK, iA, iB, xM, xO, xS, FK, FA, FB, FM, inp, lst, out, vs, xR, xL) → wpX_doItem post (xic, xoc, nI N, xhf, nI fd, nI ll, xol, xea, fw_w w, nI i, nI (i + 1), nI sp, nI p, nI b, nI lim, nI us, iK, iA, iB, xM, xO, xS, FK, FA, FB, FM, inp, lst, out, vs, xR, xL) (nI 13) (FA i) (FB i)) ∧ (∀ post : Int32 → SY → Prop, post r (yic, nI N, nI fd, nI ll, ymd, ysa, ytk, nI dp, nI p, nI b', nI sp, nI us, nI (i + 1), yra, fw_r w, iK, iA, iB, FK, FA, FB, inp, lst, out, vs, yO, yN, yS, yT) → wpY_item post (yic, nI N, nI fd, nI ll, ymd, ysa, ytk, nI dp, nI p, nI b, nI sp, nI us, nI (i + 1), yra, fw_r w, iK, iA, iB, FK, FA, FB, inp, lst, out, vs, yO, yN, yS, yT) (nI i))) ∨ (∃ (i' lim' S' dp' b' : Nat) (xR' yN' : Nat → Int32), i' ≤ N ∧ ((S' + 1 ≤ S) ∨ (S' ≤ S ∧ i < i')) ∧ p ≤ lim' ∧ b' ≤ 7 ∧ (0 < b' → 0 < p) ∧ fw_R FK xR' xL yO yN' (fw_base w fd) lim' S' (fw_st FK i') ∧ dp' = (fw_st FK i').length ∧ (∀ post : Int32 → SX → Prop, post 0 (xic, xoc, nI N, xhf, nI fd, nI ll, xol, xea, fw_w w, nI i, nI i', nI sp, nI p, nI b', nI lim', nI us, iK, iA, iB, xM, xO, xS, FK, FA, FB, FM, inp, lst, out, vs, xR', xL) → wpX_doItem post (xic, xoc, nI N, xhf, nI fd, nI ll, xol, xea, fw_w w, nI i, nI (i + 1), nI sp, nI p, nI b, nI lim, nI us, iK, iA, iB, xM, xO, xS, FK, FA, FB, FM, inp, lst, out, vs, xR, xL) (nI 13) (FA i) (FB i)) ∧ (∀ post : Int32 → SY → Prop, post 0 (yic, nI N, nI fd, nI ll, ymd, ysa, ytk, nI dp', nI p, nI b', nI sp, nI us, nI i', yra, fw_r w, iK, iA, iB, FK, FA, FB, inp, lst, out, vs, yO, yN', yS, yT) → wpY_item post (yic, nI N, nI fd, nI ll, ymd, ysa, ytk, nI dp, nI p, nI b, nI sp, nI us, nI (i + 1), yra, fw_r w, iK, iA, iB, FK, FA, FB, inp, lst, out, vs, yO, yN, yS, yT) (nI i))) := by
  obtain ⟨hi, hlim, ci, vi⟩ := rE_i E
  obtain ⟨v, hv, ev, vv, cv⟩ := rE_v (FB i)
  obtain ⟨W, hN, hiN, hfd, R, hd, _⟩ := E
  obtain ⟨o, e, s, hs⟩ := (W i hiN).2.2 kc
  have hst := fw_st_en kc hs
  obtain ⟨a1, a2, a3, a4⟩ := fw_hd W i (by omega) o e s hs
  obtain ⟨m1, m2, m3⟩ := G.2.2 i hiN kc o e s hs
  have l4 := fw_len W i (by omega)
  rw [hs] at R hd l4
  have hd' : dp = s.length + 1 := hd
  have l4' : s.length + 1 ≤ 4 := l4
  have hm : ∀ o' e', (o', e') ∈ s → o' < o := by
    intro o' e' q
    rw [a4] at q
    exact fw_mem_lt W o (by omega) o' e' q
  have eM : FM (nI i).toNatClampNeg = nI o := by rw [ci]; exact m1
  have vo : vp_in (nI o) 40 := vp_in_nI (by omega) (by omega)
  have co : (nI o).toNatClampNeg = o := nI_clamp (by omega)
  have ek : FK (nI i).toNatClampNeg = 13 := by rw [ci]; exact kc
  have ed : nI dp - 1 = nI s.length := by rw [hd']; exact nI_pred _
  have v5 : vp_in (nI s.length) 5 := vp_in_nI (by omega) (by omega)
  have cs : (nI s.length).toNatClampNeg = s.length := nI_clamp (by omega)
  have eo : yO (nI s.length).toNatClampNeg = nI o := by rw [cs]; exact fw_R_op R
  have vyo : vp_in (yO (nI s.length).toNatClampNeg) 40 := by rw [eo]; exact vo
  have eko : FK (yO (nI s.length).toNatClampNeg).toNatClampNeg = FK o := by rw [eo, co]
  have HX : ∀ post : Int32 → SX → Prop, wpX_leaveOpened (fun r u => match u with | (xic, xoc, xfc, xhf, xil, xll, xol, xea, xwr, xcu, xfo, xsp, xpo, xbl, xli, xvu, iK, iA, iB, xM, xO, xS, FK, FA, FB, FM, inp, lst, out, vs, xR, xL) => post r (xic, xoc, xfc, xhf, xil, xll, xol, xea, xwr, xcu, xfo, xsp, xpo, xbl, xli, xvu, iK, iA, iB, xM, xO, xS, FK, FA, FB, FM, inp, lst, out, vs, xR, xL)) (xic, xoc, nI N, xhf, nI fd, nI ll, xol, xea, fw_w w, nI i, nI (i + 1), nI sp, nI p, nI b, nI lim, nI us, iK, iA, iB, xM, xO, xS, FK, FA, FB, FM, inp, lst, out, vs, xR, xL) (nI o) → wpX_doItem post (xic, xoc, nI N, xhf, nI fd, nI ll, xol, xea, fw_w w, nI i, nI (i + 1), nI sp, nI p, nI b, nI lim, nI us, iK, iA, iB, xM, xO, xS, FK, FA, FB, FM, inp, lst, out, vs, xR, xL) (nI 13) (FA i) (FB i) := by
    intro post H
    refine nm_r ev (br_f (by decide) (br_t (by decide) ⟨vi, ?_⟩))
    rw [eM]
    exact H
  rcases a2 with k4 | k5 | k6
  · -- REPEAT
    have xk : FK (nI o).toNatClampNeg = 4 := by rw [co]; exact k4
    have yk : FK (yO (nI s.length).toNatClampNeg).toNatClampNeg = 4 := by rw [eko]; exact k4
    obtain ⟨x, S', x1, x2, x3, x4, x5, x6, x7⟩ := fw_R_t4 R hm k4
    have exr : upd xR (nI o).toNatClampNeg (xR (nI o).toNatClampNeg - 1) = upd xR o (nI (x - 1)) := by
      rw [co, x4]
      exact congrArg (upd xR o) (pk_sub (b := 1) x1)
    have eyn : upd yN (nI s.length).toNatClampNeg (yN (nI s.length).toNatClampNeg - 1) = upd yN s.length (nI (x - 1)) := by
      rw [cs, x3]
      exact congrArg (upd yN s.length) (pk_sub (b := 1) x1)
    have zx : upd xR o (nI (x - 1)) (nI o).toNatClampNeg = nI (x - 1) := by rw [co, pk_us]
    have zy : upd yN s.length (nI (x - 1)) (nI s.length).toNatClampNeg = nI (x - 1) := by rw [cs, pk_us]
    by_cases h1 : x = 1
    · have z1 : nI (x - 1) ≤ 0 := by rw [h1]; decide
      refine Or.inr ⟨i + 1, lim, S', s.length, b, upd xR o (nI (x - 1)), upd yN s.length (nI (x - 1)), by omega, Or.inl (by omega), hp, hb, hbp, by rw [hst]; exact x6 _ _, by rw [hst], fun post H => HX _ ⟨vo, br_t xk ⟨vo, vo, nm_r exr ⟨vo, br_t (by rw [zx]; exact z1) H⟩⟩⟩, fun post H => ⟨vi, nm_r ek (br_t rfl (nm_r ed ⟨v5, vyo, nm_r yk (br_f (by decide) (br_t (by decide) ⟨v5, v5, nm_r eyn ⟨v5, br_t (by rw [zy]; exact z1) (nm_r ed H)⟩⟩))⟩))⟩⟩
    · have z1 : ¬ nI (x - 1) ≤ 0 := nI_nle (by omega) (by omega)
      have hop : fw_Op FK o := Or.inl k4
      have hst2 := fw_st_op hop
      have eo2 : yO (nI s.length).toNatClampNeg + 1 = nI (o + 1) := by rw [eo]; exact nI_1 o
      refine Or.inr ⟨o + 1, lim, S' + (x - 1), dp, b, upd xR o (nI (x - 1)), upd yN s.length (nI (x - 1)), by omega, Or.inl (by omega), hp, hb, hbp, ?_, by rw [hst2, List.length_cons, ← a4]; exact hd', fun post H => HX _ ⟨vo, br_t xk ⟨vo, vo, nm_r exr ⟨vo, br_f (by rw [zx]; exact z1) (nm_r (nI_1 o) H)⟩⟩⟩, fun post H => ⟨vi, nm_r ek (br_t rfl (nm_r ed ⟨v5, vyo, nm_r yk (br_f (by decide) (br_t (by decide) ⟨v5, v5, nm_r eyn ⟨v5, br_f (by rw [zy]; exact z1) ⟨v5, nm_r eo2 H⟩⟩⟩))⟩))⟩⟩
      rw [hst2, ← a4]
      exact x7 0 (x - 1) (by omega) (by omega)
  · -- WHEN
    have xk4 : ¬ FK (nI o).toNatClampNeg = 4 := by rw [co, k5]; decide
    have xk6 : ¬ FK (nI o).toNatClampNeg = 6 := by rw [co, k5]; decide
    have yk : FK (yO (nI s.length).toNatClampNeg).toNatClampNeg = 5 := by rw [eko]; exact k5
    exact Or.inr ⟨i + 1, lim, S, s.length, b, xR, yN, by omega, Or.inr ⟨by omega, by omega⟩, hp, hb, hbp, by rw [hst]; exact fw_R_t5 R k5, by rw [hst], fun post H => HX _ ⟨vo, br_f xk4 ⟨vo, br_f xk6 H⟩⟩, fun post H => ⟨vi, nm_r ek (br_t rfl (nm_r ed ⟨v5, vyo, nm_r yk (br_f (by decide) (br_f (by decide) (nm_r ed H)))⟩))⟩⟩
  · -- BLOCK
    have xk4 : ¬ FK (nI o).toNatClampNeg = 4 := by rw [co, k6]; decide
    have xk6 : FK (nI o).toNatClampNeg = 6 := by rw [co]; exact k6
    have yk : FK (yO (nI s.length).toNatClampNeg).toNatClampNeg = 6 := by rw [eko]; exact k6
    obtain ⟨r1, lim', r2, r3, r4⟩ := fw_R_t6 R k6
    have eL : xL (nI o).toNatClampNeg = nI lim' := by rw [co]; exact r3
    have eN : yN (nI s.length).toNatClampNeg = nI lim := by rw [cs]; exact r1
    by_cases hpad : fw_pad w inp p b
    · exact Or.inl ⟨6, b, by decide, hb, hbp, fun post H => HX _ ⟨vo, br_f xk4 ⟨vo, br_t xk6 (rx_cl0 hpad hb hbp (by omega) (br_t rfl H))⟩⟩, fun post H => ⟨vi, nm_r ek (br_t rfl (nm_r ed ⟨v5, vyo, nm_r yk (br_t (by decide) (ry_cl0 hpad hb hbp (by omega) (br_f (by decide) H)))⟩))⟩⟩
    · by_cases hl : lim ≤ p
      · have epl : nI p = yN (nI s.length).toNatClampNeg := by rw [eN, show p = lim by omega]
        exact Or.inr ⟨i + 1, lim', S, s.length, 0, xR, yN, by omega, Or.inr ⟨by omega, by omega⟩, by omega, by omega, fun z => by omega, by rw [hst]; exact r4, by rw [hst], fun post H => HX _ ⟨vo, br_f xk4 ⟨vo, br_t xk6 (rx_cl1 hpad hb hbp (by omega) (br_f (by decide) (br_t (nI_le hl (by omega)) ⟨vo, nm_r eL H⟩)))⟩⟩, fun post H => ⟨vi, nm_r ek (br_t rfl (nm_r ed ⟨v5, vyo, nm_r yk (br_t (by decide) (ry_cl1 hpad hb hbp (by omega) (br_t rfl ⟨v5, br_t epl (br_f (by decide) (nm_r ed H))⟩)))⟩))⟩⟩
      · have epl : ¬ nI p = yN (nI s.length).toNatClampNeg := by
          rw [eN]
          intro z
          have := (nI_eq (by omega) (by omega)).mp z
          omega
        exact Or.inl ⟨7, 0, by decide, by omega, fun z => by omega, fun post H => HX _ ⟨vo, br_f xk4 ⟨vo, br_t xk6 (rx_cl1 hpad hb hbp (by omega) (br_f (by decide) (br_f (nI_ge (by omega) (by omega)) H)))⟩⟩, fun post H => ⟨vi, nm_r ek (br_t rfl (nm_r ed ⟨v5, vyo, nm_r yk (br_t (by decide) (ry_cl1 hpad hb hbp (by omega) (br_t rfl ⟨v5, br_f epl H⟩)))⟩))⟩⟩
end
end
section
/-! one item, before and in itself -/
section
variable {xic xoc xfc xhf xil xll xol xea xwr xcu xfo xsp xpo xbl xli xvu yic ysz yfd yls ymd ysa ytk ydp yps ybi ysp yus ynx yra yrd : Int32} {iK iA iB xM xO xS FK FA FB FM inp lst out vs xR xL yO yN yS yT : Nat → Int32}
variable {N fd ll i sp p b lim us dp base S : Nat} {w : Bool}
theorem rr_prep {c : Nat} (hc : c ≤ 11) (kc : FK i = nI c) (hi : i < 40) (hsp : sp ≤ 400) (hp : p ≤ 64) (hb : b ≤ 7) (hbp : 0 < b → 0 < p) (hus : us ≤ ll) (hll : ll ≤ 40) :
    (∃ (r : Int32) (sp1 sp2 b1 : Nat), r ≠ 0 ∧ b1 ≤ 7 ∧ (0 < b1 → 0 < p) ∧ (∀ post : Int32 → SX → Prop, post r (xic, xoc, nI N, xhf, nI fd, nI ll, xol, xea, fw_w w, nI i, xfo, nI sp1, nI p, nI b1, nI lim, nI us, iK, iA, iB, xM, xO, xS, FK, FA, FB, FM, inp, lst, out, vs, xR, xL) → wpX_prepareItem post (xic, xoc, nI N, xhf, nI fd, nI ll, xol, xea, fw_w w, nI i, xfo, nI sp, nI p, nI b, nI lim, nI us, iK, iA, iB, xM, xO, xS, FK, FA, FB, FM, inp, lst, out, vs, xR, xL) (nI c)) ∧ (∀ post : Int32 → SY → Prop, post r (yic, nI N, nI fd, nI ll, ymd, ysa, ytk, nI dp, nI p, nI b1, nI sp2, nI us, ynx, yra, fw_r w, iK, iA, iB, FK, FA, FB, inp, lst, out, vs, yO, yN, yS, yT) → wpY_item post (yic, nI N, nI fd, nI ll, ymd, ysa, ytk, nI dp, nI p, nI b, nI sp, nI us, ynx, yra, fw_r w, iK, iA, iB, FK, FA, FB, inp, lst, out, vs, yO, yN, yS, yT) (nI i))) ∨
    (sp < 400 ∧ ∃ b1 : Nat, b1 ≤ 7 ∧ (0 < b1 → 0 < p) ∧ (w = false → c < 3 → ll < 40) ∧ (w = true → c < 3 → us < ll) ∧ (∀ post : Int32 → SX → Prop, post 0 (xic, xoc, nI N, xhf, nI fd, nI ll, xol, xea, fw_w w, nI i, xfo, nI (sp + 1), nI p, nI b1, nI lim, nI us, iK, iA, iB, xM, xO, xS, FK, FA, FB, FM, inp, lst, out, vs, xR, xL) → wpX_prepareItem post (xic, xoc, nI N, xhf, nI fd, nI ll, xol, xea, fw_w w, nI i, xfo, nI sp, nI p, nI b, nI lim, nI us, iK, iA, iB, xM, xO, xS, FK, FA, FB, FM, inp, lst, out, vs, xR, xL) (nI c)) ∧ (∀ post : Int32 → SY → Prop, wY_item_113 post (nI i) (nI c) yic (nI N) (nI fd) (nI ll) ymd ysa ytk (nI dp) (nI p) (nI b1) (nI (sp + 1)) (nI us) ynx yra (fw_r w) iK iA iB FK FA FB inp lst out vs yO yN yS yT → wpY_item post (yic, nI N, nI fd, nI ll, ymd, ysa, ytk, nI dp, nI p, nI b, nI sp, nI us, ynx, yra, fw_r w, iK, iA, iB, FK, FA, FB, inp, lst, out, vs, yO, yN, yS, yT) (nI i))) := by
  have ci : (nI i).toNatClampNeg = i := nI_clamp (by omega)
  have vi : vp_in (nI i) 40 := vp_in_nI hi (by omega)
  by_cases h4 : sp < 400
  · by_cases hfull : w = false ∧ c < 3 ∧ ll = 40
    · obtain ⟨hw, hv, hl⟩ := hfull
      exact Or.inl ⟨8, sp + 1, sp, b, by decide, hb, hbp, fun post H => rx_m2 h4 hw hv hl H, fun post H => ry_m2 hi kc h4 hw hv hl H⟩
    · have hl : w = false → c < 3 → ll < 40 := fun hw hv => by
        rcases Nat.lt_or_ge ll 40 with z | z
        · exact z
        · exact absurd ⟨hw, hv, by omega⟩ hfull
      by_cases hpc : fw_clo c ∧ fw_pad w inp p b
      · obtain ⟨hclo, hpad⟩ := hpc
        exact Or.inl ⟨6, sp + 1, sp + 1, b, by decide, hb, hbp, fun post H => rx_prep hc h4 hl (rx_64p hclo hpad hb hbp hp H), fun post H => ry_item hi kc hc h4 hl (ry_70c hclo (ry_102p hpad hb hbp hp H))⟩
      · obtain ⟨b1, hb1, hbp1, PX, PY⟩ : ∃ b1 : Nat, b1 ≤ 7 ∧ (0 < b1 → 0 < p) ∧ (∀ post : Int32 → SX → Prop, wX_prepareItem_82 post (nI c) xic xoc (nI N) xhf (nI fd) (nI ll) xol xea (fw_w w) (nI i) xfo (nI (sp + 1)) (nI p) (nI b1) (nI lim) (nI us) iK iA iB xM xO xS FK FA FB FM inp lst out vs xR xL → wpX_prepareItem post (xic, xoc, nI N, xhf, nI fd, nI ll, xol, xea, fw_w w, nI i, xfo, nI sp, nI p, nI b, nI lim, nI us, iK, iA, iB, xM, xO, xS, FK, FA, FB, FM, inp, lst, out, vs, xR, xL) (nI c)) ∧ (∀ post : Int32 → SY → Prop, wY_item_113 post (nI i) (nI c) yic (nI N) (nI fd) (nI ll) ymd ysa ytk (nI dp) (nI p) (nI b1) (nI (sp + 1)) (nI us) ynx yra (fw_r w) iK iA iB FK FA FB inp lst out vs yO yN yS yT → wpY_item post (yic, nI N, nI fd, nI ll, ymd, ysa, ytk, nI dp, nI p, nI b, nI sp, nI us, ynx, yra, fw_r w, iK, iA, iB, FK, FA, FB, inp, lst, out, vs, yO, yN, yS, yT) (nI i)) := by
          by_cases hclo : fw_clo c
          · have hpad : ¬ fw_pad w inp p b := fun z => hpc ⟨hclo, z⟩
            exact ⟨0, by omega, fun z => by omega, fun post H => rx_prep hc h4 hl (rx_64c hclo hpad hb hbp hp H), fun post H => ry_item hi kc hc h4 hl (ry_70c hclo (ry_102 hpad hb hbp hp H))⟩
          · exact ⟨b, hb, hbp, fun post H => rx_prep hc h4 hl (rx_64n (by omega) hclo H), fun post H => ry_item hi kc hc h4 hl (ry_70n hc hclo H)⟩
        by_cases hs : w = true ∧ c < 3 ∧ ll ≤ us
        · obtain ⟨hw, hv, hl⟩ := hs
          have e : nI us = nI ll := by rw [show us = ll by omega]
          refine Or.inl ⟨3, sp + 1, sp + 1, b1, by decide, hb1, hbp1, fun post H => PX post (rx_82s (by omega) (by omega) hw hv hl H), fun post H => PY post ?_⟩
          subst hw
          exact ⟨vi, nm_e (br_f (nI_ge (b := 3) hv (by decide)) (br_t (by decide) (br_t e H)))⟩
        · have hs' : w = true → c < 3 → us < ll := fun hw hv => by
            rcases Nat.lt_or_ge us ll with z | z
            · exact z
            · exact absurd ⟨hw, hv, z⟩ hs
          exact Or.inr ⟨h4, b1, hb1, hbp1, hl, hs', fun post H => PX post (rx_82 (by omega) hll hs' H), PY⟩
  · exact Or.inl ⟨8, sp, sp, b, by decide, hb, hbp, fun post H => rx_m1 hc h4 (by omega) H, fun post H => ry_m1 hi kc hc (by omega) H⟩
theorem rf_all {c : Nat} (E : fr_E FK xR xL yO yN N fd lim S i dp w) (hp : p ≤ lim) (hb : b ≤ 7) (hbp : 0 < b → 0 < p) (hus : us ≤ ll) (hll : ll ≤ 40) (hc : c ≤ 11) (hn : ¬ (c = 4 ∨ c = 5 ∨ c = 6)) (kc : FK i = nI c) (hit : fw_It (FK i) (FA i)) (hl : w = false → c < 3 → ll < 40) (hu : w = true → c < 3 → us < ll) : (∃ (r q : Int32), r ≠ 0 ∧ (w = true → q = nI p) ∧ (∀ post : Int32 → SX → Prop, post r (xic, xoc, nI N, xhf, nI fd, nI ll, xol, xea, fw_w w, nI i, xfo, nI sp, nI p, nI b, nI lim, nI us, iK, iA, iB, xM, xO, xS, FK, FA, FB, FM, inp, lst, out, vs, xR, xL) → wpX_doItem post (xic, xoc, nI N, xhf, nI fd, nI ll, xol, xea, fw_w w, nI i, xfo, nI sp, nI p, nI b, nI lim, nI us, iK, iA, iB, xM, xO, xS, FK, FA, FB, FM, inp, lst, out, vs, xR, xL) (nI c) (FA i) (FB i)) ∧ (∀ post : Int32 → SY → Prop, post r (yic, nI N, nI fd, nI ll, ymd, ysa, ytk, nI dp, q, nI b, nI sp, nI us, ynx, yra, fw_r w, iK, iA, iB, FK, FA, FB, inp, lst, out, vs, yO, yN, yS, yT) → wY_item_113 post (nI i) (nI c) yic (nI N) (nI fd) (nI ll) ymd ysa ytk (nI dp) (nI p) (nI b) (nI sp) (nI us) ynx yra (fw_r w) iK iA iB FK FA FB inp lst out vs yO yN yS yT)) ∨ (∃ (p' b' us' ll' : Nat) (lst' out' vs' : Nat → Int32), p' ≤ lim ∧ b' ≤ 7 ∧ (0 < b' → 0 < p') ∧ us' ≤ ll' ∧ ll' ≤ 40 ∧ (∀ post : Int32 → SX → Prop, post 0 (xic, xoc, nI N, xhf, nI fd, nI ll', xol, xea, fw_w w, nI i, xfo, nI sp, nI p', nI b', nI lim, nI us', iK, iA, iB, xM, xO, xS, FK, FA, FB, FM, inp, lst', out', vs', xR, xL) → wpX_doItem post (xic, xoc, nI N, xhf, nI fd, nI ll, xol, xea, fw_w w, nI i, xfo, nI sp, nI p, nI b, nI lim, nI us, iK, iA, iB, xM, xO, xS, FK, FA, FB, FM, inp, lst, out, vs, xR, xL) (nI c) (FA i) (FB i)) ∧ (∀ post : Int32 → SY → Prop, post 0 (yic, nI N, nI fd, nI ll', ymd, ysa, ytk, nI dp, nI p', nI b', nI sp, nI us', ynx, yra, fw_r w, iK, iA, iB, FK, FA, FB, inp, lst', out', vs', yO, yN, yS, yT) → wY_item_113 post (nI i) (nI c) yic (nI N) (nI fd) (nI ll) ymd ysa ytk (nI dp) (nI p) (nI b) (nI sp) (nI us) ynx yra (fw_r w) iK iA iB FK FA FB inp lst out vs yO yN yS yT)) := by
  obtain ⟨c', h1, h2, h3, h4, h5⟩ := hit
  have e : c' = c := (nI_eq (by omega) (by omega)).mp (h2.symm.trans kc)
  subst e
  have h : c' = 0 ∨ c' = 1 ∨ c' = 2 ∨ c' = 3 ∨ c' = 7 ∨ c' = 8 ∨ c' = 9 ∨ c' = 10 ∨ c' = 11 := by omega
  rcases h with rfl | rfl | rfl | rfl | rfl | rfl | rfl | rfl | rfl
  · obtain ⟨m, m1, m2, m3⟩ := h3 rfl
    cases w with
    | false => exact rf_0r E hp hb hbp hus hll m1 m2 m3 rfl (hl rfl (by omega))
    | true => exact rf_0w E hp hb hbp hus hll m1 m2 m3 rfl (hu rfl (by omega))
  · cases w with
    | false => exact rf_1r E hp hb hbp hus hll rfl (hl rfl (by omega))
    | true => exact rf_1w E hp hb hbp hus hll rfl (hu rfl (by omega))
  · obtain ⟨m, m1, m2, m3⟩ := h4 rfl
    cases w with
    | false => exact rf_2r E hp hb hbp hus hll m1 m2 m3 rfl (hl rfl (by omega))
    | true => exact rf_2w E hp hb hbp hus hll m1 m2 m3 rfl (hu rfl (by omega))
  · exact rf_3 E hp hb hbp hus hll
  · exact rf_7 E hp hb hbp hus hll
  · obtain ⟨m, m1, m2, m3⟩ := h5 rfl
    exact rf_8 E hp hb hbp hus hll m1 m2 m3
  · exact rf_9 E hp hb hbp hus hll
  · exact rf_10 E hp hb hbp hus hll
  · exact rf_11 E hp hb hbp hus hll
end
end
section
/-! the run, in lockstep -/
section
variable {xic xoc xfc xhf xil xll xol xea xwr xcu xfo xsp xpo xbl xli xvu yic ysz yfd yls ymd ysa ytk ydp yps ybi ysp yus ynx yra yrd : Int32} {iK iA iB xM xO xS FK FA FB FM inp lst out vs xR xL yO yN yS yT : Nat → Int32}
variable {N fd ll i sp p b lim us dp base S : Nat} {w : Bool}
theorem rm_fX {post : Int32 → SX → Prop} {n : Nat} {r x2 : Int32} (hr : r ≠ 0) (H : post r (xic, xoc, nI N, xhf, nI fd, nI ll, xol, nI i, fw_w w, nI i, xfo, nI sp, nI p, nI b, nI lim, nI us, iK, iA, iB, xM, xO, xS, FK, FA, FB, FM, inp, lst, out, vs, xR, xL)) : wX_runFormat_8 post (n + 1) r x2 xic xoc (nI N) xhf (nI fd) (nI ll) xol xea (fw_w w) (nI i) xfo (nI sp) (nI p) (nI b) (nI lim) (nI us) iK iA iB xM xO xS FK FA FB FM inp lst out vs xR xL := by
  have K : wX_runFormat_101 post r xic xoc (nI N) xhf (nI fd) (nI ll) xol xea (fw_w w) (nI i) xfo (nI sp) (nI p) (nI b) (nI lim) (nI us) iK iA iB xM xO xS FK FA FB FM inp lst out vs xR xL := br_f hr (br_f hr H)
  exact br_c (fun _ => K) (fun _ => br_f hr K)
theorem rm_fX2 {post : Int32 → SX → Prop} {n : Nat} {r : Int32} {vis : Nat} (hr : r ≠ 0) (H : post r (xic, xoc, nI N, xhf, nI fd, nI ll, xol, nI i, fw_w w, nI i, xfo, nI sp, nI p, nI b, nI lim, nI us, iK, iA, iB, xM, xO, xS, FK, FA, FB, FM, inp, lst, out, vs, xR, xL)) : wX_runFormat_83 post (wX_runFormat_8 post (n + 1)) r (nI vis) xic xoc (nI N) xhf (nI fd) (nI ll) xol xea (fw_w w) (nI i) xfo (nI sp) (nI p) (nI b) (nI lim) (nI us) iK iA iB xM xO xS FK FA FB FM inp lst out vs xR xL :=
  br_f hr (nm_e (rm_fX hr H))
theorem rm_fY {post : Int32 → SY → Prop} {n : Nat} {r : Int32} (hr : r ≠ 0) (H : post r (yic, nI N, nI fd, nI ll, ymd, nI i, yra, nI dp, nI p, nI b, nI sp, nI us, ynx, yra, fw_r w, iK, iA, iB, FK, FA, FB, inp, lst, out, vs, yO, yN, yS, yT)) : wY_run_50 post (n + 1) r (nI i) yic (nI N) (nI fd) (nI ll) ymd ysa ytk (nI dp) (nI p) (nI b) (nI sp) (nI us) ynx yra (fw_r w) iK iA iB FK FA FB inp lst out vs yO yN yS yT := by
  have K : wY_run_95 post r (nI i) yic (nI N) (nI fd) (nI ll) ymd ysa ytk (nI dp) (nI p) (nI b) (nI sp) (nI us) ynx yra (fw_r w) iK iA iB FK FA FB inp lst out vs yO yN yS yT := br_f hr (br_f hr H)
  exact br_c (fun _ => K) (fun _ => br_f hr K)
/-- at the end of the items -/
theorem rm_end (hN : N ≤ 40) (hfd : fd ≤ 64) (hp : p ≤ 64) (hb : b ≤ 7) (hbp : 0 < b → 0 < p) (hus : us ≤ 40) (hll : ll ≤ 40) : ∃ (r ea : Int32) (B : Nat), B ≤ 7 ∧ (0 < B → 0 < p) ∧ (∀ (post : Int32 → SX → Prop) (n vis : Nat), vis < 1000000 → post r (xic, xoc, nI N, xhf, nI fd, nI ll, xol, ea, fw_w w, nI N, xfo, nI sp, nI p, nI B, nI lim, nI us, iK, iA, iB, xM, xO, xS, FK, FA, FB, FM, inp, lst, out, vs, xR, xL) → wX_runFormat_8 post (n + 1) 0 (nI vis) xic xoc (nI N) xhf (nI fd) (nI ll) xol xea (fw_w w) (nI N) xfo (nI sp) (nI p) (nI b) (nI lim) (nI us) iK iA iB xM xO xS FK FA FB FM inp lst out vs xR xL) ∧ (∀ (post : Int32 → SY → Prop) (n : Nat), post r (yic, nI N, nI fd, nI ll, ymd, ea, nI p, nI dp, nI p, nI B, nI sp, nI us, ynx, nI p, fw_r w, iK, iA, iB, FK, FA, FB, inp, lst, out, vs, yO, yN, yS, yT) → wY_run_50 post (n + 1) 0 (nI N) yic (nI N) (nI fd) (nI ll) ymd ysa ytk (nI dp) (nI p) (nI b) (nI sp) (nI us) ynx yra (fw_r w) iK iA iB FK FA FB inp lst out vs yO yN yS yT) := by
  have cN : nI N ≤ nI N := nI_le (by omega) (by omega)
  have hX : ∀ (post : Int32 → SX → Prop) (n vis : Nat), vis < 1000000 → wpX_finishRun (fun r_37 u => match u with | (xic, xoc, xfc, xhf, xil, xll, xol, xea, xwr, xcu, xfo, xsp, xpo, xbl, xli, xvu, iK, iA, iB, xM, xO, xS, FK, FA, FB, FM, inp, lst, out, vs, xR, xL) => wX_runFormat_110 post r_37 xic xoc xfc xhf xil xll xol xea xwr xcu xfo xsp xpo xbl xli xvu iK iA iB xM xO xS FK FA FB FM inp lst out vs xR xL) (xic, xoc, nI N, xhf, nI fd, nI ll, xol, xea, fw_w w, nI N, xfo, nI sp, nI p, nI b, nI lim, nI us, iK, iA, iB, xM, xO, xS, FK, FA, FB, FM, inp, lst, out, vs, xR, xL) → wX_runFormat_8 post (n + 1) 0 (nI vis) xic xoc (nI N) xhf (nI fd) (nI ll) xol xea (fw_w w) (nI N) xfo (nI sp) (nI p) (nI b) (nI lim) (nI us) iK iA iB xM xO xS FK FA FB FM inp lst out vs xR xL := by
    intro post n vis hv H
    exact br_f (nI_ge (b := 1000000) hv (by decide)) (br_t rfl (br_t cN (br_t rfl H)))
  by_cases hpad : fw_pad w inp p b
  · refine ⟨6, nI N, b, hb, hbp, fun post n vis hv H => hX post n vis hv ?_, fun post n H => br_t cN (br_t rfl ?_)⟩
    · unfold wpX_finishRun
      exact rx_cl0 hpad hb hbp hp (br_t rfl (br_f (by decide) H))
    · exact ry_cl0 hpad hb hbp hp (br_f (by decide) (br_f (by decide) H))
  · cases w with
    | false =>
      by_cases hl : fd ≤ p
      · have c : nI fd ≤ nI p := nI_le hl (by omega)
        refine ⟨0, -1, 0, by omega, fun z => by omega, fun post n vis hv H => hX post n vis hv ?_, fun post n H => br_t cN (br_t rfl ?_)⟩
        · unfold wpX_finishRun
          exact rx_cl1 (w := false) hpad hb hbp hp (br_f (by decide) (br_t rfl (br_t c (br_t rfl (br_t rfl H)))))
        · exact ry_cl1 (w := false) hpad hb hbp hp (br_t rfl (br_f (by decide) (br_t c (br_t rfl H))))
      · have c : ¬ nI fd ≤ nI p := nI_ge (by omega) (by omega)
        refine ⟨7, nI N, 0, by omega, fun z => by omega, fun post n vis hv H => hX post n vis hv ?_, fun post n H => br_t cN (br_t rfl ?_)⟩
        · unfold wpX_finishRun
          exact rx_cl1 (w := false) hpad hb hbp hp (br_f (by decide) (br_t rfl (br_f c (br_f (by decide) (br_f (by decide) H)))))
        · exact ry_cl1 (w := false) hpad hb hbp hp (br_t rfl (br_f (by decide) (br_f c (br_f (by decide) H))))
    | true =>
      by_cases hl : ll ≤ us
      · have c : nI ll ≤ nI us := nI_le hl (by omega)
        refine ⟨0, -1, 0, by omega, fun z => by omega, fun post n vis hv H => hX post n vis hv ?_, fun post n H => br_t cN (br_t rfl ?_)⟩
        · unfold wpX_finishRun
          exact rx_cl1 (w := true) hpad hb hbp hp (br_f (by decide) (br_f (by decide) (br_t c (br_t rfl (br_t rfl H)))))
        · exact ry_cl1 (w := true) hpad hb hbp hp (br_t rfl (br_t (by decide) (br_t c (br_t rfl H))))
      · have c : ¬ nI ll ≤ nI us := nI_ge (by omega) (by omega)
        refine ⟨7, nI N, 0, by omega, fun z => by omega, fun post n vis hv H => hX post n vis hv ?_, fun post n H => br_t cN (br_t rfl ?_)⟩
        · unfold wpX_finishRun
          exact rx_cl1 (w := true) hpad hb hbp hp (br_f (by decide) (br_f (by decide) (br_f c (br_f (by decide) (br_f (by decide) H)))))
        · exact ry_cl1 (w := true) hpad hb hbp hp (br_t rfl (br_t (by decide) (br_f c (br_f (by decide) H))))
end
end
section
/-! the loop of both -/
theorem fw_V_b2 {sp S S' i i' : Nat} (h : S' + 1 ≤ S) : fw_V sp S' i' < fw_V sp S i := by
  unfold fw_V
  omega
theorem fw_V_1 {sp S i : Nat} (h : i < 40) : 0 < fw_V sp S i := by
  unfold fw_V
  omega
section
variable {xic xoc xfc xhf xil xll xol xea xwr xcu xfo xsp xpo xbl xli xvu yic ysz yfd yls ymd ysa ytk ydp yps ybi ysp yus ynx yra yrd : Int32} {iK iA iB xM xO xS FK FA FB FM inp lst out vs xR xL yO yN yS yT : Nat → Int32}
variable {N fd : Nat} {w : Bool}
theorem rr_main (hN : N ≤ 40) (hfd : fd ≤ 64) (G : fw_Good FK FM N) (hIt : ∀ j, j < N → fw_It (FK j) (FA j)) : ∀ (m i sp p b lim S us ll dp : Nat) (xfo ynx yra : Int32) (lst out vs xR xL yO yN : Nat → Int32), fw_V sp S i ≤ m → sp ≤ 400 → i ≤ N → p ≤ lim → b ≤ 7 → (0 < b → 0 < p) → us ≤ ll → ll ≤ 40 → fw_R FK xR xL yO yN (fw_base w fd) lim S (fw_st FK i) → dp = (fw_st FK i).length →
    ∃ (r ea cu fo st li vu yd yp yb ys yu yn yr : Int32) (L P B : Nat) (lst' out' vs' xR' xL' yO' yN' : Nat → Int32), L ≤ 40 ∧ P ≤ 64 ∧ B ≤ 7 ∧ (0 < B → 0 < P) ∧ (w = true → yp = nI P ∧ yb = nI B) ∧ (∀ (post : Int32 → SX → Prop) (n vis : Nat), vis + fw_V sp S i < 1000000 → fw_V sp S i < n → post r (xic, xoc, nI N, xhf, nI fd, nI L, xol, ea, fw_w w, cu, fo, st, nI P, nI B, li, vu, iK, iA, iB, xM, xO, xS, FK, FA, FB, FM, inp, lst', out', vs', xR', xL') → wX_runFormat_8 post n 0 (nI vis) xic xoc (nI N) xhf (nI fd) (nI ll) xol xea (fw_w w) (nI i) xfo (nI sp) (nI p) (nI b) (nI lim) (nI us) iK iA iB xM xO xS FK FA FB FM inp lst out vs xR xL) ∧ (∃ nY : Nat, ∀ post : Int32 → SY → Prop, post r (yic, nI N, nI fd, nI L, ymd, ea, nI P, yd, yp, yb, ys, yu, yn, yr, fw_r w, iK, iA, iB, FK, FA, FB, inp, lst', out', vs', yO', yN', yS, yT) → wY_run_50 post nY 0 (nI i) yic (nI N) (nI fd) (nI ll) ymd ysa ytk (nI dp) (nI p) (nI b) (nI sp) (nI us) ynx yra (fw_r w) iK iA iB FK FA FB inp lst out vs yO yN yS yT) := by
  have W := G.1
  have hK : ∀ j, j < N → ∃ c : Nat, c ≤ 13 ∧ FK j = nI c := by
    intro j hj
    obtain ⟨c, q1, q2, _⟩ := hIt j hj
    exact ⟨c, q1, q2⟩
  have hbase : fw_base w fd ≤ 64 := by
    unfold fw_base
    cases w with
    | false => exact hfd
    | true => exact Nat.le_refl _
  intro m
  induction m with
  | zero =>
    intro i sp p b lim S us ll dp xfo ynx yra lst out vs xR xL yO yN hV hsp hi hp hb hbp hus hll R hd
    have hl64 := fw_R_le _ _ _ R
    rcases Nat.lt_or_ge i N with hlt | hge
    · have := fw_V_1 (sp := sp) (S := S) (i := i) (by omega)
      omega
    · have e : i = N := by omega
      rw [e]
      obtain ⟨r, ea, B, k1, k2, KX, KY⟩ := rm_end (w := w) (b := b) (p := p) (us := us) (ll := ll) (sp := sp) (dp := dp) (lim := lim) hN hfd (by omega) hb hbp (by omega) hll (xic := xic) (xoc := xoc) (xhf := xhf) (xol := xol) (xea := xea) (xfo := xfo) (iK := iK) (iA := iA) (iB := iB) (xM := xM) (xO := xO) (xS := xS) (FK := FK) (FA := FA) (FB := FB) (FM := FM) (inp := inp) (lst := lst) (out := out) (vs := vs) (xR := xR) (xL := xL) (yic := yic) (ymd := ymd) (ysa := ysa) (ytk := ytk) (ynx := ynx) (yra := yra) (yO := yO) (yN := yN) (yS := yS) (yT := yT)
      refine ⟨r, ea, nI N, xfo, nI sp, nI lim, nI us, nI dp, nI p, nI B, nI sp, nI us, ynx, nI p, ll, p, B, lst, out, vs, xR, xL, yO, yN, hll, by omega, k1, k2, fun _ => ⟨rfl, rfl⟩, fun post n vis hv hn H => ?_, 1, fun post H => KY post 0 H⟩
      obtain ⟨k, rfl⟩ : ∃ k, n = k + 1 := ⟨n - 1, by omega⟩
      exact KX post k vis (by omega) H
  | succ m ih =>
    intro i sp p b lim S us ll dp xfo ynx yra lst out vs xR xL yO yN hV hsp hi hp hb hbp hus hll R hd
    have hl64 := fw_R_le _ _ _ R
    rcases Nat.lt_or_ge i N with hlt | hge
    · have V1 := fw_V_1 (sp := sp) (S := S) (i := i) (by omega)
      have hi40 : i < 40 := by omega
      have ci : (nI i).toNatClampNeg = i := nI_clamp (by omega)
      have vi : vp_in (nI i) 40 := vp_in_nI hi40 (by omega)
      have cN : ¬ nI N ≤ nI i := nI_ge (by omega) (by omega)
      have E : fr_E FK xR xL yO yN N fd lim S i dp w := ⟨W, hN, hlt, hfd, R, hd, by omega⟩
      obtain ⟨c, hc, kc⟩ := hK i hlt
      have eK : FK (nI i).toNatClampNeg = nI c := by rw [ci]; exact kc
      by_cases hc11 : c ≤ 11
      · rcases rr_prep (w := w) (N := N) (fd := fd) (lim := lim) (dp := dp) (xR := xR) (xL := xL) (yO := yO) (yN := yN) hc11 kc hi40 hsp (by omega) hb hbp hus hll (xic := xic) (xoc := xoc) (xhf := xhf) (xol := xol) (xea := xea) (iK := iK) (iA := iA) (iB := iB) (xM := xM) (xO := xO) (xS := xS) (FA := FA) (FB := FB) (FM := FM) (inp := inp) (lst := lst) (out := out) (vs := vs) (yic := yic) (ymd := ymd) (ysa := ysa) (ytk := ytk) (yra := nI p) (yS := yS) (yT := yT) (xfo := nI (i + 1)) (ynx := nI (i + 1)) with ⟨r, sp1, sp2, b1, hr, hb1, hbp1, PX, PY⟩ | ⟨h4, b1, hb1, hbp1, hl, hu, PX, PY⟩
        · -- ended before the item itself
          refine ⟨r, nI i, nI i, nI (i + 1), nI sp1, nI lim, nI us, nI dp, nI p, nI b1, nI sp2, nI us, nI (i + 1), nI p, ll, p, b1, lst, out, vs, xR, xL, yO, yN, hll, by omega, hb1, hbp1, fun _ => ⟨rfl, rfl⟩, fun post n vis hv hn H => ?_, 2, fun post H => br_f cN (br_t rfl (nm_r (nI_1 i) (PY _ (br_f hr (rm_fY hr H)))))⟩
          obtain ⟨k, rfl⟩ : ∃ k, n = k + 2 := ⟨n - 2, by omega⟩
          exact br_f (nI_ge (b := 1000000) (by omega) (by decide)) (br_t rfl (br_f cN ⟨vi, nm_r eK (nm_r (nI_1 i) (PX _ (br_f hr (rm_fX2 hr H))))⟩))
        · by_cases hop : c = 4 ∨ c = 5 ∨ c = 6
          · -- an item that begins others
            have fin : ∀ (i' lim' S' dp' : Nat) (xR' xL' yO' yN' : Nat → Int32), i < i' → i' ≤ N → S' ≤ S + 32 → p ≤ lim' → fw_R FK xR' xL' yO' yN' (fw_base w fd) lim' S' (fw_st FK i') → dp' = (fw_st FK i').length → (∀ post : Int32 → SX → Prop, post 0 (xic, xoc, nI N, xhf, nI fd, nI ll, xol, xea, fw_w w, nI i, nI i', nI (sp + 1), nI p, nI b1, nI lim', nI us, iK, iA, iB, xM, xO, xS, FK, FA, FB, FM, inp, lst, out, vs, xR', xL') → wpX_doItem post (xic, xoc, nI N, xhf, nI fd, nI ll, xol, xea, fw_w w, nI i, nI (i + 1), nI (sp + 1), nI p, nI b1, nI lim, nI us, iK, iA, iB, xM, xO, xS, FK, FA, FB, FM, inp, lst, out, vs, xR, xL) (nI c) (FA i) (FB i)) → (∃ k : Nat, ∀ (post : Int32 → SY → Prop) (n : Nat), wY_run_50 post n 0 (nI i') yic (nI N) (nI fd) (nI ll) ymd ysa ytk (nI dp') (nI p) (nI b1) (nI (sp + 1)) (nI us) (nI i') (nI p) (fw_r w) iK iA iB FK FA FB inp lst out vs yO' yN' yS yT → wY_run_50 post (n + k) 0 (nI i) yic (nI N) (nI fd) (nI ll) ymd ysa ytk (nI dp) (nI p) (nI b) (nI sp) (nI us) ynx yra (fw_r w) iK iA iB FK FA FB inp lst out vs yO yN yS yT) → ∃ (r ea cu fo st li vu yd yp yb ys yu yn yr : Int32) (L P B : Nat) (lst' out' vs' xR' xL' yO' yN' : Nat → Int32), L ≤ 40 ∧ P ≤ 64 ∧ B ≤ 7 ∧ (0 < B → 0 < P) ∧ (w = true → yp = nI P ∧ yb = nI B) ∧ (∀ (post : Int32 → SX → Prop) (n vis : Nat), vis + fw_V sp S i < 1000000 → fw_V sp S i < n → post r (xic, xoc, nI N, xhf, nI fd, nI L, xol, ea, fw_w w, cu, fo, st, nI P, nI B, li, vu, iK, iA, iB, xM, xO, xS, FK, FA, FB, FM, inp, lst', out', vs', xR', xL') → wX_runFormat_8 post n 0 (nI vis) xic xoc (nI N) xhf (nI fd) (nI ll) xol xea (fw_w w) (nI i) xfo (nI sp) (nI p) (nI b) (nI lim) (nI us) iK iA iB xM xO xS FK FA FB FM inp lst out vs xR xL) ∧ (∃ nY : Nat, ∀ post : Int32 → SY → Prop, post r (yic, nI N, nI fd, nI L, ymd, ea, nI P, yd, yp, yb, ys, yu, yn, yr, fw_r w, iK, iA, iB, FK, FA, FB, inp, lst', out', vs', yO', yN', yS, yT) → wY_run_50 post nY 0 (nI i) yic (nI N) (nI fd) (nI ll) ymd ysa ytk (nI dp) (nI p) (nI b) (nI sp) (nI us) ynx yra (fw_r w) iK iA iB FK FA FB inp lst out vs yO yN yS yT) := by
              intro i' lim' S' dp' xR' xL' yO' yN' g1 g2 g3 g4 g5 g6 HX ⟨k, HY⟩
              have V2 := fw_V_step (S := S) (S' := S') (i := i) (i' := i') h4 g3 g1 (by omega)
              obtain ⟨r, ea, cu, fo, st, li, vu, yd, yp, yb, ys, yu, yn, yr, L, P, B, lst', out', vs', xR2, xL2, yO2, yN2, q1, q2, q3, q4, q5, KX, nY, KY⟩ := ih i' (sp + 1) p b1 lim' S' us ll dp' (nI i') (nI i') (nI p) lst out vs xR' xL' yO' yN' (by omega) (by omega) g2 g4 hb1 hbp1 hus hll g5 g6
              refine ⟨r, ea, cu, fo, st, li, vu, yd, yp, yb, ys, yu, yn, yr, L, P, B, lst', out', vs', xR2, xL2, yO2, yN2, q1, q2, q3, q4, q5, fun post n vis hv hn H => ?_, nY + k, fun post H => HY post nY (KY post H)⟩
              obtain ⟨k, rfl⟩ : ∃ k, n = k + 1 := ⟨n - 1, by omega⟩
              refine br_f (nI_ge (b := 1000000) (by omega) (by decide)) (br_t rfl (br_f cN ⟨vi, nm_r eK (nm_r (nI_1 i) (PX _ (br_t rfl ⟨vi, vi, ?_⟩)))⟩))
              rw [ci]
              exact HX _ (br_t rfl (nm_r (nI_1 vis) (KX post k (vis + 1) (by omega) (by omega) H)))
            have bad : ∀ r : Int32, r ≠ 0 → (∀ post : Int32 → SX → Prop, post r (xic, xoc, nI N, xhf, nI fd, nI ll, xol, xea, fw_w w, nI i, nI (i + 1), nI (sp + 1), nI p, nI b1, nI lim, nI us, iK, iA, iB, xM, xO, xS, FK, FA, FB, FM, inp, lst, out, vs, xR, xL) → wpX_doItem post (xic, xoc, nI N, xhf, nI fd, nI ll, xol, xea, fw_w w, nI i, nI (i + 1), nI (sp + 1), nI p, nI b1, nI lim, nI us, iK, iA, iB, xM, xO, xS, FK, FA, FB, FM, inp, lst, out, vs, xR, xL) (nI c) (FA i) (FB i)) → (∀ post : Int32 → SY → Prop, post r (yic, nI N, nI fd, nI ll, ymd, ysa, ytk, nI dp, nI p, nI b1, nI (sp + 1), nI us, nI (i + 1), nI p, fw_r w, iK, iA, iB, FK, FA, FB, inp, lst, out, vs, yO, yN, yS, yT) → wY_item_113 post (nI i) (nI c) yic (nI N) (nI fd) (nI ll) ymd ysa ytk (nI dp) (nI p) (nI b1) (nI (sp + 1)) (nI us) (nI (i + 1)) (nI p) (fw_r w) iK iA iB FK FA FB inp lst out vs yO yN yS yT) → ∃ (r ea cu fo st li vu yd yp yb ys yu yn yr : Int32) (L P B : Nat) (lst' out' vs' xR' xL' yO' yN' : Nat → Int32), L ≤ 40 ∧ P ≤ 64 ∧ B ≤ 7 ∧ (0 < B → 0 < P) ∧ (w = true → yp = nI P ∧ yb = nI B) ∧ (∀ (post : Int32 → SX → Prop) (n vis : Nat), vis + fw_V sp S i < 1000000 → fw_V sp S i < n → post r (xic, xoc, nI N, xhf, nI fd, nI L, xol, ea, fw_w w, cu, fo, st, nI P, nI B, li, vu, iK, iA, iB, xM, xO, xS, FK, FA, FB, FM, inp, lst', out', vs', xR', xL') → wX_runFormat_8 post n 0 (nI vis) xic xoc (nI N) xhf (nI fd) (nI ll) xol xea (fw_w w) (nI i) xfo (nI sp) (nI p) (nI b) (nI lim) (nI us) iK iA iB xM xO xS FK FA FB FM inp lst out vs xR xL) ∧ (∃ nY : Nat, ∀ post : Int32 → SY → Prop, post r (yic, nI N, nI fd, nI L, ymd, ea, nI P, yd, yp, yb, ys, yu, yn, yr, fw_r w, iK, iA, iB, FK, FA, FB, inp, lst', out', vs', yO', yN', yS, yT) → wY_run_50 post nY 0 (nI i) yic (nI N) (nI fd) (nI ll) ymd ysa ytk (nI dp) (nI p) (nI b) (nI sp) (nI us) ynx yra (fw_r w) iK iA iB FK FA FB inp lst out vs yO yN yS yT) := by
              intro r hr HX HY
              refine ⟨r, nI i, nI i, nI (i + 1), nI (sp + 1), nI lim, nI us, nI dp, nI p, nI b1, nI (sp + 1), nI us, nI (i + 1), nI p, ll, p, b1, lst, out, vs, xR, xL, yO, yN, hll, by omega, hb1, hbp1, fun _ => ⟨rfl, rfl⟩, fun post n vis hv hn H => ?_, 2, fun post H => br_f cN (br_t rfl (nm_r (nI_1 i) (PY _ (HY _ (br_f hr (rm_fY hr H))))))⟩
              obtain ⟨k, rfl⟩ : ∃ k, n = k + 2 := ⟨n - 2, by omega⟩
              refine br_f (nI_ge (b := 1000000) (by omega) (by decide)) (br_t rfl (br_f cN ⟨vi, nm_r eK (nm_r (nI_1 i) (PX _ (br_t rfl ⟨vi, vi, ?_⟩)))⟩))
              rw [ci]
              exact HX _ (rm_fX2 hr H)
            rcases hop with rfl | rfl | rfl
            · rcases rs_4 (sp := sp + 1) (b := b1) (us := us) (ll := ll) E G hK hp kc (xic := xic) (xoc := xoc) (xhf := xhf) (xol := xol) (xea := xea) (iK := iK) (iA := iA) (iB := iB) (xM := xM) (xO := xO) (xS := xS) (FA := FA) (FB := FB) (FM := FM) (inp := inp) (lst := lst) (out := out) (vs := vs) (yic := yic) (ymd := ymd) (ysa := ysa) (ytk := ytk) (yra := nI p) (yS := yS) (yT := yT) with ⟨r, hr, HX, HY⟩ | ⟨i', lim', S', dp', xR', xL', yO', yN', g1, g2, g3, g4, g5, g6, HX, HY⟩
              · exact bad r hr HX HY
              · exact fin i' lim' S' dp' xR' xL' yO' yN' g1 g2 g3 g4 g5 g6 HX ⟨1, fun post n K => br_f cN (br_t rfl (nm_r (nI_1 i) (PY _ (HY _ (br_t rfl K)))))⟩
            · rcases rs_5 (sp := sp + 1) (b := b1) (us := us) (ll := ll) E G hK hp kc (xic := xic) (xoc := xoc) (xhf := xhf) (xol := xol) (xea := xea) (iK := iK) (iA := iA) (iB := iB) (xM := xM) (xO := xO) (xS := xS) (FA := FA) (FB := FB) (FM := FM) (inp := inp) (lst := lst) (out := out) (vs := vs) (yic := yic) (ymd := ymd) (ysa := ysa) (ytk := ytk) (yra := nI p) (yS := yS) (yT := yT) with (⟨r, hr, HX, HY⟩ | ⟨i', lim', S', dp', xR', xL', yO', yN', g1, g2, g3, g4, g5, g6, HX, HY⟩) | ⟨t, mm, t1, t2, t3, t4, t5, t6, HX, HY⟩
              · exact bad r hr HX HY
              · exact fin i' lim' S' dp' xR' xL' yO' yN' g1 g2 g3 g4 g5 g6 HX ⟨1, fun post n K => br_f cN (br_t rfl (nm_r (nI_1 i) (PY _ (HY _ (br_t rfl K)))))⟩
              · have cT : ¬ nI N ≤ nI t := nI_ge (by omega) (by omega)
                refine fin (t + 1) lim S dp xR xL (upd yO dp (nI i)) (upd yN dp mm) (by omega) (by omega) (by omega) hp (by rw [t5]; exact t6) (by rw [t5]; exact hd) HX ⟨2, fun post n K => br_f cN (br_t rfl (nm_r (nI_1 i) (PY _ (HY _ (br_t rfl ?_)))))⟩
                exact br_f cT (br_t rfl (nm_r (nI_1 t) (rs_5e (by omega) hi40 t4 kc t3 (br_t rfl K))))
            · rcases rs_6 (sp := sp + 1) (b := b1) (us := us) (ll := ll) E hp kc (xic := xic) (xoc := xoc) (xhf := xhf) (xol := xol) (xea := xea) (iK := iK) (iA := iA) (iB := iB) (xM := xM) (xO := xO) (xS := xS) (FA := FA) (FB := FB) (FM := FM) (inp := inp) (lst := lst) (out := out) (vs := vs) (yic := yic) (ymd := ymd) (ysa := ysa) (ytk := ytk) (yra := nI p) (yS := yS) (yT := yT) with ⟨r, hr, HX, HY⟩ | ⟨i', lim', S', dp', xR', xL', yO', yN', g1, g2, g3, g4, g5, g6, HX, HY⟩
              · exact bad r hr HX HY
              · exact fin i' lim' S' dp' xR' xL' yO' yN' g1 g2 g3 g4 g5 g6 HX ⟨1, fun post n K => br_f cN (br_t rfl (nm_r (nI_1 i) (PY _ (HY _ (br_t rfl K)))))⟩
          · -- a plain item
            have nop : ¬ fw_Op FK i := by
              intro z0
              have z : FK i = 4 ∨ FK i = 5 ∨ FK i = 6 := z0
              rw [kc] at z
              apply hop
              rcases z with z | z | z
              · exact Or.inl ((nI_eq (b := 4) (by omega) (by omega)).mp z)
              · exact Or.inr (Or.inl ((nI_eq (b := 5) (by omega) (by omega)).mp z))
              · exact Or.inr (Or.inr ((nI_eq (b := 6) (by omega) (by omega)).mp z))
            have n12 : ¬ FK i = 12 := by rw [kc]; exact rx_nl (m := 12) (by omega) (by omega) (by omega)
            have n13 : ¬ FK i = 13 := by rw [kc]; exact rx_nl (m := 13) (by omega) (by omega) (by omega)
            have hst := fw_st_no nop n12 n13
            rcases rf_all (sp := sp + 1) E hp hb1 hbp1 hus hll hc11 hop kc (hIt i hlt) hl hu (xic := xic) (xoc := xoc) (xhf := xhf) (xol := xol) (xea := xea) (iK := iK) (iA := iA) (iB := iB) (xM := xM) (xO := xO) (xS := xS) (FA := FA) (FB := FB) (FM := FM) (inp := inp) (lst := lst) (out := out) (vs := vs) (yic := yic) (ymd := ymd) (ysa := ysa) (ytk := ytk) (yra := nI p) (yS := yS) (yT := yT) (xfo := nI (i + 1)) (ynx := nI (i + 1)) with ⟨r, q, hr, hq, HX, HY⟩ | ⟨p', b', us', ll', lst1, out1, vs1, g1, g2, g3, g4, g5, HX, HY⟩
            · refine ⟨r, nI i, nI i, nI (i + 1), nI (sp + 1), nI lim, nI us, nI dp, q, nI b1, nI (sp + 1), nI us, nI (i + 1), nI p, ll, p, b1, lst, out, vs, xR, xL, yO, yN, hll, by omega, hb1, hbp1, fun z => ⟨hq z, rfl⟩, fun post n vis hv hn H => ?_, 2, fun post H => br_f cN (br_t rfl (nm_r (nI_1 i) (PY _ (HY _ (br_f hr ?_)))))⟩
              · obtain ⟨k, rfl⟩ : ∃ k, n = k + 2 := ⟨n - 2, by omega⟩
                refine br_f (nI_ge (b := 1000000) (by omega) (by decide)) (br_t rfl (br_f cN ⟨vi, nm_r eK (nm_r (nI_1 i) (PX _ (br_t rfl ⟨vi, vi, ?_⟩)))⟩))
                rw [ci]
                exact HX _ (rm_fX2 hr H)
              · exact br_c (fun _ => br_f hr (br_f hr H)) (fun _ => br_f hr (br_f hr (br_f hr H)))
            · have V2 := fw_V_step (S := S) (S' := S) (i := i) (i' := i + 1) h4 (by omega) (by omega) (by omega)
              obtain ⟨r, ea, cu, fo, st, li, vu, yd, yp, yb, ys, yu, yn, yr, L, P, B, lst', out', vs', xR2, xL2, yO2, yN2, q1, q2, q3, q4, q5, KX, nY, KY⟩ := ih (i + 1) (sp + 1) p' b' lim S us' ll' dp (nI (i + 1)) (nI (i + 1)) (nI p) lst1 out1 vs1 xR xL yO yN (by omega) (by omega) (by omega) g1 g2 g3 g4 g5 (by rw [hst]; exact R) (by rw [hst]; exact hd)
              refine ⟨r, ea, cu, fo, st, li, vu, yd, yp, yb, ys, yu, yn, yr, L, P, B, lst', out', vs', xR2, xL2, yO2, yN2, q1, q2, q3, q4, q5, fun post n vis hv hn H => ?_, nY + 1, fun post H => br_f cN (br_t rfl (nm_r (nI_1 i) (PY _ (HY _ (br_t rfl (KY post H))))))⟩
              obtain ⟨k, rfl⟩ : ∃ k, n = k + 1 := ⟨n - 1, by omega⟩
              refine br_f (nI_ge (b := 1000000) (by omega) (by decide)) (br_t rfl (br_f cN ⟨vi, nm_r eK (nm_r (nI_1 i) (PX _ (br_t rfl ⟨vi, vi, ?_⟩)))⟩))
              rw [ci]
              exact HX _ (br_t rfl (nm_r (nI_1 vis) (KX post k (vis + 1) (by omega) (by omega) H)))
      · by_cases hc12 : c = 12
        · -- ELSE
          subst hc12
          obtain ⟨i', g1, g2, g3, g4, HX, HY⟩ := rs_12 (sp := sp) (p := p) (b := b) (us := us) (ll := ll) E G hK kc (xic := xic) (xoc := xoc) (xhf := xhf) (xol := xol) (xea := xea) (iK := iK) (iA := iA) (iB := iB) (xM := xM) (xO := xO) (xS := xS) (FA := FA) (FB := FB) (FM := FM) (inp := inp) (lst := lst) (out := out) (vs := vs) (yic := yic) (ymd := ymd) (ysa := ysa) (ytk := ytk) (yra := nI p) (yS := yS) (yT := yT)
          have V2 := fw_V_on (sp := sp) (S := S) (S' := S) (i := i) (i' := i') (by omega) g1 (by omega)
          obtain ⟨r, ea, cu, fo, st, li, vu, yd, yp, yb, ys, yu, yn, yr, L, P, B, lst', out', vs', xR2, xL2, yO2, yN2, q1, q2, q3, q4, q5, KX, nY, KY⟩ := ih i' sp p b lim S us ll dp (nI i') (nI i') (nI p) lst out vs xR xL yO yN (by omega) hsp g2 hp hb hbp hus hll g3 g4
          refine ⟨r, ea, cu, fo, st, li, vu, yd, yp, yb, ys, yu, yn, yr, L, P, B, lst', out', vs', xR2, xL2, yO2, yN2, q1, q2, q3, q4, q5, fun post n vis hv hn H => ?_, nY + 1, fun post H => br_f cN (br_t rfl (nm_r (nI_1 i) (HY _ (br_t rfl (KY post H)))))⟩
          obtain ⟨k, rfl⟩ : ∃ k, n = k + 1 := ⟨n - 1, by omega⟩
          refine br_f (nI_ge (b := 1000000) (by omega) (by decide)) (br_t rfl (br_f cN ⟨vi, nm_r eK (nm_r (nI_1 i) (br_t (by decide) (br_t rfl ⟨vi, vi, ?_⟩)))⟩))
          rw [ci]
          exact HX _ (br_t rfl (nm_r (nI_1 vis) (KX post k (vis + 1) (by omega) (by omega) H)))
        · -- END
          have hc13 : c = 13 := by omega
          subst hc13
          rcases rs_13 (sp := sp) (us := us) (ll := ll) E G hp hb hbp kc (xic := xic) (xoc := xoc) (xhf := xhf) (xol := xol) (xea := xea) (iK := iK) (iA := iA) (iB := iB) (xM := xM) (xO := xO) (xS := xS) (FA := FA) (FB := FB) (FM := FM) (inp := inp) (lst := lst) (out := out) (vs := vs) (yic := yic) (ymd := ymd) (ysa := ysa) (ytk := ytk) (yra := nI p) (yS := yS) (yT := yT) with ⟨r, b1, hr, hb1, hbp1, HX, HY⟩ | ⟨i', lim', S', dp', b1, xR', yN', g1, g2, g3, hb1, hbp1, g5, g6, HX, HY⟩
          · refine ⟨r, nI i, nI i, nI (i + 1), nI sp, nI lim, nI us, nI dp, nI p, nI b1, nI sp, nI us, nI (i + 1), nI p, ll, p, b1, lst, out, vs, xR, xL, yO, yN, hll, by omega, hb1, hbp1, fun _ => ⟨rfl, rfl⟩, fun post n vis hv hn H => ?_, 2, fun post H => br_f cN (br_t rfl (nm_r (nI_1 i) (HY _ (br_f hr (rm_fY hr H)))))⟩
            obtain ⟨k, rfl⟩ : ∃ k, n = k + 2 := ⟨n - 2, by omega⟩
            refine br_f (nI_ge (b := 1000000) (by omega) (by decide)) (br_t rfl (br_f cN ⟨vi, nm_r eK (nm_r (nI_1 i) (br_f (by decide) (br_t (by decide) (br_t rfl ⟨vi, vi, ?_⟩))))⟩))
            rw [ci]
            exact HX _ (rm_fX2 hr H)
          · have V2 : fw_V sp S' i' < fw_V sp S i := by
              rcases g2 with g2 | g2
              · exact fw_V_b2 g2
              · exact fw_V_on g2.1 g2.2 (by omega)
            obtain ⟨r, ea, cu, fo, st, li, vu, yd, yp, yb, ys, yu, yn, yr, L, P, B, lst', out', vs', xR2, xL2, yO2, yN2, q1, q2, q3, q4, q5, KX, nY, KY⟩ := ih i' sp p b1 lim' S' us ll dp' (nI i') (nI i') (nI p) lst out vs xR' xL yO yN' (by omega) hsp g1 g3 hb1 hbp1 hus hll g5 g6
            refine ⟨r, ea, cu, fo, st, li, vu, yd, yp, yb, ys, yu, yn, yr, L, P, B, lst', out', vs', xR2, xL2, yO2, yN2, q1, q2, q3, q4, q5, fun post n vis hv hn H => ?_, nY + 1, fun post H => br_f cN (br_t rfl (nm_r (nI_1 i) (HY _ (br_t rfl (KY post H)))))⟩
            obtain ⟨k, rfl⟩ : ∃ k, n = k + 1 := ⟨n - 1, by omega⟩
            refine br_f (nI_ge (b := 1000000) (by omega) (by decide)) (br_t rfl (br_f cN ⟨vi, nm_r eK (nm_r (nI_1 i) (br_f (by decide) (br_t (by decide) (br_t rfl ⟨vi, vi, ?_⟩))))⟩))
            rw [ci]
            exact HX _ (br_t rfl (nm_r (nI_1 vis) (KX post k (vis + 1) (by omega) (by omega) H)))
    · have e : i = N := by omega
      rw [e]
      obtain ⟨r, ea, B, k1, k2, KX, KY⟩ := rm_end (w := w) (b := b) (p := p) (us := us) (ll := ll) (sp := sp) (dp := dp) (lim := lim) hN hfd (by omega) hb hbp (by omega) hll (xic := xic) (xoc := xoc) (xhf := xhf) (xol := xol) (xea := xea) (xfo := xfo) (iK := iK) (iA := iA) (iB := iB) (xM := xM) (xO := xO) (xS := xS) (FK := FK) (FA := FA) (FB := FB) (FM := FM) (inp := inp) (lst := lst) (out := out) (vs := vs) (xR := xR) (xL := xL) (yic := yic) (ymd := ymd) (ysa := ysa) (ytk := ytk) (ynx := ynx) (yra := yra) (yO := yO) (yN := yN) (yS := yS) (yT := yT)
      refine ⟨r, ea, nI N, xfo, nI sp, nI lim, nI us, nI dp, nI p, nI B, nI sp, nI us, ynx, nI p, ll, p, B, lst, out, vs, xR, xL, yO, yN, hll, by omega, k1, k2, fun _ => ⟨rfl, rfl⟩, fun post n vis hv hn H => ?_, 1, fun post H => KY post 0 H⟩
      obtain ⟨k, rfl⟩ : ∃ k, n = k + 1 := ⟨n - 1, by omega⟩
      exact KX post k vis (by omega) H
end
end
section
/-! parse and write -/
section
variable {xic xoc xfc xhf xil xll xol xea xwr xcu xfo xsp xpo xbl xli xvu yic ysz yfd yls ymd ysa ytk ydp yps ybi ysp yus ynx yra yrd : Int32} {iK iA iB xM xO xS FK FA FB FM inp lst out vs xR xL yO yN yS yT : Nat → Int32}
variable {N fd ll : Nat} {w : Bool}
theorem rq_X {post : SX → Prop} (H : post (xic, xoc, xfc, xhf, xil, xll, xol, xea, xwr, xcu, xfo, xsp, xpo, xbl, xli, xvu, iK, iA, iB, xM, xO, xS, FK, FA, FB, FM, inp, lst, out, fw_cp (fun _ => 0) vs 8, xR, xL)) : ∀ d j : Nat, j + d = 8 → wX_startRun_27 post xic xoc xfc xhf xil xll xol xea xwr xcu xfo xsp xpo xbl xli xvu (d + 1) (nI j) iK iA iB xM xO xS FK FA FB FM inp lst out (fw_cp (fun _ => 0) vs j) xR xL := by
  intro d
  induction d with
  | zero =>
    intro j hj
    have e : j = 8 := by omega
    rw [e]
    exact br_t (by decide) H
  | succ d ih =>
    intro j hj
    have cj : (nI j).toNatClampNeg = j := nI_clamp (by omega)
    exact br_f (nI_ge (b := 8) (by omega) (by decide)) ⟨vp_in_nI (by omega) (by omega), nm_r (by rw [cj]; exact fw_cp_s (fun _ => 0) vs j) (nm_r (nI_1 j) (ih (j + 1) (by omega)))⟩
theorem rq_Y {post : Int32 → SY → Prop} (H : ∃ n50 : Nat, wY_run_50 post n50 0 0 yic ysz yfd yls ymd ysa ytk 0 0 0 0 0 ynx yra yrd iK iA iB FK FA FB inp lst out (fw_cp (fun _ => 0) vs 8) yO yN yS yT) : ∀ d j : Nat, j + d = 8 → wY_run_2 post yic ysz yfd yls ymd ysa ytk ydp yps ybi ysp yus ynx yra yrd (d + 1) (nI j) iK iA iB FK FA FB inp lst out (fw_cp (fun _ => 0) vs j) yO yN yS yT := by
  intro d
  induction d with
  | zero =>
    intro j hj
    have e : j = 8 := by omega
    rw [e]
    exact br_t (by decide) H
  | succ d ih =>
    intro j hj
    have cj : (nI j).toNatClampNeg = j := nI_clamp (by omega)
    exact br_f (nI_ge (b := 8) (by omega) (by decide)) ⟨vp_in_nI (by omega) (by omega), nm_r (by rw [cj]; exact fw_cp_s (fun _ => 0) vs j) (nm_r (nI_1 j) (ih (j + 1) (by omega)))⟩
theorem rq_run (hF : fw_Fmt FK FA FM N) (hfd : fd ≤ 64) (hll : ll ≤ 40) : ∃ (r ea cu fo st li vu yd yp yb ys yu yn yr : Int32) (L P B : Nat) (lst' out' vs' xR' xL' yO' yN' : Nat → Int32), L ≤ 40 ∧ P ≤ 64 ∧ B ≤ 7 ∧ (0 < B → 0 < P) ∧ (w = true → yp = nI P ∧ yb = nI B) ∧ (∀ post : Int32 → SX → Prop, post r (xic, xoc, nI N, xhf, nI fd, nI L, xol, ea, fw_w w, cu, fo, st, nI P, nI B, li, vu, iK, iA, iB, xM, xO, xS, FK, FA, FB, FM, inp, lst', out', vs', xR', xL') → wpX_runFormat post (xic, xoc, nI N, xhf, nI fd, nI ll, xol, xea, fw_w w, xcu, xfo, xsp, xpo, xbl, nI (fw_base w fd), xvu, iK, iA, iB, xM, xO, xS, FK, FA, FB, FM, inp, lst, out, vs, xR, xL)) ∧ (∀ post : Int32 → SY → Prop, post r (yic, nI N, nI fd, nI L, ymd, ea, nI P, yd, yp, yb, ys, yu, yn, yr, fw_r w, iK, iA, iB, FK, FA, FB, inp, lst', out', vs', yO', yN', yS, yT) → wpY_run post (yic, nI N, nI fd, nI ll, ymd, ysa, ytk, ydp, yps, ybi, ysp, yus, ynx, yra, fw_r w, iK, iA, iB, FK, FA, FB, inp, lst, out, vs, yO, yN, yS, yT)) := by
  obtain ⟨hN, G, hIt⟩ := hF
  obtain ⟨r, ea, cu, fo, st, li, vu, yd, yp, yb, ys, yu, yn, yr, L, P, B, lst', out', vs', xR2, xL2, yO2, yN2, q1, q2, q3, q4, q5, KX, nY, KY⟩ := rr_main (w := w) hN hfd G hIt 541240 0 0 0 0 (fw_base w fd) 0 0 ll 0 xfo ynx yra lst out (fw_cp (fun _ => 0) vs 8) xR xL yO yN (by rw [fw_V_0]; omega) (by omega) (by omega) (by omega) (by omega) (fun z => by omega) (by omega) hll ⟨rfl, rfl⟩ rfl (xic := xic) (xoc := xoc) (xhf := xhf) (xol := xol) (xea := xea) (iK := iK) (iA := iA) (iB := iB) (xM := xM) (xO := xO) (xS := xS) (FB := FB) (inp := inp) (yic := yic) (ymd := ymd) (ysa := ysa) (ytk := ytk) (yS := yS) (yT := yT)
  refine ⟨r, ea, cu, fo, st, li, vu, yd, yp, yb, ys, yu, yn, yr, L, P, B, lst', out', vs', xR2, xL2, yO2, yN2, q1, q2, q3, q4, q5, fun post H => ?_, fun post H => ?_⟩
  · have K := rq_X (post := fun u => match u with | (xic, xoc, xfc, xhf, xil, xll, xol, xea, xwr, xcu, xfo, xsp, xpo, xbl, xli, xvu, iK, iA, iB, xM, xO, xS, FK, FA, FB, FM, inp, lst, out, vs, xR, xL) => ∃ n8 : Nat, wX_runFormat_8 post n8 0 0 xic xoc xfc xhf xil xll xol xea xwr xcu xfo xsp xpo xbl xli xvu iK iA iB xM xO xS FK FA FB FM inp lst out vs xR xL) (vs := vs) (iK := iK) (iA := iA) (iB := iB) (xM := xM) (xO := xO) (xS := xS) (FK := FK) (FA := FA) (FB := FB) (FM := FM) (inp := inp) (lst := lst) (out := out) (xR := xR) (xL := xL) (xic := xic) (xoc := xoc) (xfc := nI N) (xhf := xhf) (xil := nI fd) (xll := nI ll) (xol := xol) (xea := xea) (xwr := fw_w w) (xcu := 0) (xfo := xfo) (xsp := 0) (xpo := 0) (xbl := 0) (xli := nI (fw_base w fd)) (xvu := 0) ⟨541241, KX post 541241 0 (by rw [fw_V_0]; omega) (by rw [fw_V_0]; omega) H⟩ 8 0 (by omega)
    rw [fw_cp_0] at K
    unfold wpX_runFormat
    exact ⟨9, K⟩
  · have K := rq_Y (post := post) (vs := vs) (iK := iK) (iA := iA) (iB := iB) (FK := FK) (FA := FA) (FB := FB) (inp := inp) (lst := lst) (out := out) (yO := yO) (yN := yN) (yS := yS) (yT := yT) (yic := yic) (ysz := nI N) (yfd := nI fd) (yls := nI ll) (ymd := ymd) (ysa := ysa) (ytk := ytk) (ydp := ydp) (yps := yps) (ybi := ybi) (ysp := ysp) (yus := yus) (ynx := ynx) (yra := yra) (yrd := fw_r w) ⟨nY, KY post H⟩ 8 0 (by omega)
    rw [fw_cp_0] at K
    exact ⟨9, K⟩
end
theorem fw_m1 : ¬ (0 : Int32) ≤ -1 := by decide
theorem i_vc_parse {k : Nat} {u : SX} {v : SY} (I : i_Rel k u v) (hk : k + 4 ≤ 2048) : wpX_parse (fun r u' => wpY_parse (fun r' v' => r' = r ∧ i_Rel (k + 4) u' v') v) u := by
  have J := I
  obtain ⟨xic, xoc, xfc, xhf, xil, xll, xol, xea, xwr, xcu, xfo, xsp, xpo, xbl, xli, xvu, iK, iA, iB, xM, xO, xS, FK, FA, FB, FM, inp, lst, out, vs, xR, xL⟩ := u
  obtain ⟨yic, ysz, yfd, yls, ymd, ysa, ytk, ydp, yps, ybi, ysp, yus, ynx, yra, yrd, yK, yA, yB, zK, zA, zB, yin, ylst, yout, yvs, yO, yN, yS, yT⟩ := v
  obtain ⟨n, fd, ll, md, rfl, rfl, rfl, rfl, rfl, rfl, rfl, rfl, rfl, rfl, rfl, rfl, rfl, rfl, rfl, rfl, rfl, rfl, rfl, rfl, h1, h2, h3, h4, h5, h6⟩ := I
  rcases h6 with ⟨rfl, rfl⟩ | ⟨rfl, N, rfl, rfl, hF⟩
  · exact br_t rfl (br_f fw_m1 ⟨rfl, J⟩)
  · have hN := hF.1
    obtain ⟨r, ea, cu, fo, st, li, vu, yd, yp, yb, ys, yu, yn, yr, L, P, B, lst', out', vs', xR2, xL2, yO2, yN2, q1, q2, q3, q4, q5, KX, KY⟩ := rq_run (w := false) (ll := 0) hF h2 (by omega) (xic := nI n) (xoc := xoc) (xhf := 1) (xol := nI md) (xea := xea) (xcu := xcu) (xfo := xfo) (xsp := xsp) (xpo := xpo) (xbl := xbl) (xvu := xvu) (iK := iK) (iA := iA) (iB := iB) (xM := xM) (xO := xO) (xS := xS) (FB := FB) (inp := inp) (lst := lst) (out := out) (vs := vs) (xR := xR) (xL := xL) (yic := nI n) (ymd := nI md) (ysa := xea) (ytk := xpo) (ydp := ydp) (yps := yps) (ybi := ybi) (ysp := ysp) (yus := yus) (ynx := ynx) (yra := yra) (yO := yO) (yN := yN) (yS := yS) (yT := yT)
    refine br_f (by decide) (KX _ (br_t (nI_pos' (by omega)) (KY _ ?_)))
    exact ⟨rfl, n, 0, L, md, rfl, rfl, rfl, rfl, rfl, rfl, rfl, rfl, rfl, rfl, rfl, rfl, rfl, rfl, rfl, rfl, rfl, rfl, rfl, rfl, h1, by omega, q1, h4, h5, Or.inr ⟨rfl, N, rfl, rfl, hF⟩⟩
theorem i_vc_write {k : Nat} {u : SX} {v : SY} (I : i_Rel k u v) (hk : k + 4 ≤ 2048) : wpX_write (fun r u' => wpY_write (fun r' v' => r' = r ∧ i_Rel (k + 4) u' v') v) u := by
  have J := I
  obtain ⟨xic, xoc, xfc, xhf, xil, xll, xol, xea, xwr, xcu, xfo, xsp, xpo, xbl, xli, xvu, iK, iA, iB, xM, xO, xS, FK, FA, FB, FM, inp, lst, out, vs, xR, xL⟩ := u
  obtain ⟨yic, ysz, yfd, yls, ymd, ysa, ytk, ydp, yps, ybi, ysp, yus, ynx, yra, yrd, yK, yA, yB, zK, zA, zB, yin, ylst, yout, yvs, yO, yN, yS, yT⟩ := v
  obtain ⟨n, fd, ll, md, rfl, rfl, rfl, rfl, rfl, rfl, rfl, rfl, rfl, rfl, rfl, rfl, rfl, rfl, rfl, rfl, rfl, rfl, rfl, rfl, h1, h2, h3, h4, h5, h6⟩ := I
  rcases h6 with ⟨rfl, rfl⟩ | ⟨rfl, N, rfl, rfl, hF⟩
  · exact br_t rfl (br_f fw_m1 ⟨rfl, J⟩)
  · have hN := hF.1
    obtain ⟨r, ea, cu, fo, st, li, vu, yd, yp, yb, ys, yu, yn, yr, L, P, B, lst', out', vs', xR2, xL2, yO2, yN2, q1, q2, q3, q4, q5, KX, KY⟩ := rq_run (w := true) (ll := ll) hF h2 h3 (xic := nI n) (xoc := xoc) (xhf := 1) (xol := nI md) (xea := xea) (xcu := xcu) (xfo := xfo) (xsp := xsp) (xpo := xpo) (xbl := xbl) (xvu := xvu) (iK := iK) (iA := iA) (iB := iB) (xM := xM) (xO := xO) (xS := xS) (FB := FB) (inp := inp) (lst := lst) (out := out) (vs := vs) (xR := xR) (xL := xL) (yic := nI n) (ymd := nI md) (ysa := xea) (ytk := xpo) (ydp := ydp) (yps := yps) (ybi := ybi) (ysp := ysp) (yus := yus) (ynx := ynx) (yra := yra) (yO := yO) (yN := yN) (yS := yS) (yT := yT)
    obtain ⟨rfl, rfl⟩ := q5 rfl
    by_cases hB : B = 0
    · subst hB
      refine br_f (by decide) (KX _ (br_t (by decide) (br_t (nI_pos' (by omega)) (KY _ (br_t (by decide) ?_)))))
      exact ⟨rfl, n, fd, L, P, rfl, rfl, rfl, rfl, rfl, rfl, rfl, rfl, rfl, rfl, rfl, rfl, rfl, rfl, rfl, rfl, rfl, rfl, rfl, rfl, h1, h2, q1, q2, h5, Or.inr ⟨rfl, N, rfl, rfl, hF⟩⟩
    · have c : ¬ nI B ≤ 0 := nI_nle (by omega) (by omega)
      have hP := q4 (by omega)
      have e : nI P - 1 = nI (P - 1) := pk_sub (b := 1) (by omega)
      refine br_f (by decide) (KX _ (br_f c (nm_r e (br_t (nI_pos' (by omega)) (KY _ (br_f c (nm_r e ?_)))))))
      exact ⟨rfl, n, fd, L, P - 1, rfl, rfl, rfl, rfl, rfl, rfl, rfl, rfl, rfl, rfl, rfl, rfl, rfl, rfl, rfl, rfl, rfl, rfl, rfl, rfl, h1, h2, q1, by omega, h5, Or.inr ⟨rfl, N, rfl, rfl, hF⟩⟩
end
