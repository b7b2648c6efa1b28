/-! arithmetic of the run -/
def fw_w (w : Bool) : Int32 := if w then 1 else 0
def fw_r (w : Bool) : Int32 := if w then 0 else 1
def fw_It (k a : Int32) : Prop := ∃ c : Nat, c ≤ 13 ∧ k = nI c ∧ (c = 0 → ∃ m : Nat, 1 ≤ m ∧ m ≤ 4 ∧ a = nI m) ∧ (c = 2 → ∃ m : Nat, 1 ≤ m ∧ m ≤ 16 ∧ a = nI m) ∧ (c = 8 → ∃ m : Nat, 2 ≤ m ∧ m ≤ 8 ∧ a = nI m)
def fw_Fmt (FK FA FM : Nat → Int32) (N : Nat) : Prop := N ≤ 40 ∧ fw_Good FK FM N ∧ ∀ j, j < N → fw_It (FK j) (FA j)
theorem fa_al {a p : Nat} (h2 : 2 ≤ a) (h8 : a ≤ 8) : ∃ c, c * a = p + (a - p % a) % a ∧ c ≤ p ∧ ∀ i, i * a < p ↔ i < c := by
  have h : a = 2 ∨ a = 3 ∨ a = 4 ∨ a = 5 ∨ a = 6 ∨ a = 7 ∨ a = 8 := by omega
  refine ⟨(p + (a - 1)) / a, ?_⟩
  rcases h with rfl | rfl | rfl | rfl | rfl | rfl | rfl
  · exact ⟨by omega, by omega, fun i => by omega⟩
  · exact ⟨by omega, by omega, fun i => by omega⟩
  · exact ⟨by omega, by omega, fun i => by omega⟩
  · exact ⟨by omega, by omega, fun i => by omega⟩
  · exact ⟨by omega, by omega, fun i => by omega⟩
  · exact ⟨by omega, by omega, fun i => by omega⟩
  · exact ⟨by omega, by omega, fun i => by omega⟩
/-- the visits that may still come -/
def fw_V (sp S i : Nat) : Nat := (400 - sp) * 1353 + 41 * S + (40 - i)
theorem fw_V_step {sp S i S' i' : Nat} (h : sp < 400) (hS : S' ≤ S + 32) (hi : i < i') (hi' : i' ≤ 40) : fw_V (sp + 1) S' i' < fw_V sp S i := by
  unfold fw_V
  have : (400 - sp) * 1353 = (400 - (sp + 1)) * 1353 + 1353 := by omega
  omega
theorem fw_V_on {sp S i S' i' : Nat} (hS : S' ≤ S) (hi : i < i') (hi' : i' ≤ 40) : fw_V sp S' i' < fw_V sp S i := by
  unfold fw_V
  omega
theorem fw_V_back {sp S i i' : Nat} : fw_V sp S i' < fw_V sp (S + 1) i := by
  unfold fw_V
  omega
theorem fw_V_0 : fw_V 0 0 0 = 541240 := rfl
/-- the number of an INT, by the one side and the other -/
def fr_X (f : Nat → Int32) : Nat → Int32
  | 0 => 0
  | i + 1 => (fr_X f i <<< ((8 : Int32) &&& 31)) ||| f i
def fr_Y (g : Nat → Int32) (s : Nat → Nat) : Nat → Int32
  | 0 => 0
  | i + 1 => fr_Y g s i ||| (g i <<< (nI (8 * s i) &&& 31))
theorem fr_s8 (x : Int32) : x <<< ((8 : Int32) &&& 31) = x <<< (nI 8 &&& 31) := rfl
theorem fr_s0 (x : Int32) : x <<< (nI 0 &&& 31) = x := b_ext fun i hi => by
  rw [b_shl 0 (by omega) x hi, decide_eq_true (Nat.zero_le i), Bool.true_and, Nat.sub_zero]
theorem fr_1 (f : Nat → Int32) : fr_X f 1 = f 0 := by
  simp only [fr_X]
  rw [fr_s8, fb_shl0 (by omega), fb_or0]
theorem fr_2 (f : Nat → Int32) : fr_X f 2 = (f 0 <<< (nI 8 &&& 31)) ||| f 1 := by
  show (fr_X f 1 <<< ((8 : Int32) &&& 31)) ||| f 1 = _
  rw [fr_1, fr_s8]
theorem fr_3 (f : Nat → Int32) : fr_X f 3 = ((f 0 <<< (nI 16 &&& 31)) ||| (f 1 <<< (nI 8 &&& 31))) ||| f 2 := by
  show (fr_X f 2 <<< ((8 : Int32) &&& 31)) ||| f 2 = _
  rw [fr_2, fr_s8, fb_shlor (by omega), fb_shlshl (by omega)]
theorem fr_4 (f : Nat → Int32) : fr_X f 4 = (((f 0 <<< (nI 24 &&& 31)) ||| (f 1 <<< (nI 16 &&& 31))) ||| (f 2 <<< (nI 8 &&& 31))) ||| f 3 := by
  show (fr_X f 3 <<< ((8 : Int32) &&& 31)) ||| f 3 = _
  rw [fr_3, fr_s8, fb_shlor (by omega), fb_shlor (by omega), fb_shlshl (by omega), fb_shlshl (by omega)]
theorem fr_r3 (x y z : Int32) : (x ||| y) ||| z = (z ||| y) ||| x := b_ext fun i _ => by
  simp only [b_or]
  cases bt x i <;> cases bt y i <;> cases bt z i <;> rfl
theorem fr_r4 (x y z t : Int32) : ((x ||| y) ||| z) ||| t = ((t ||| z) ||| y) ||| x := b_ext fun i _ => by
  simp only [b_or]
  cases bt x i <;> cases bt y i <;> cases bt z i <;> cases bt t i <;> rfl
/-- highest byte first -/
theorem fr_big (f : Nat → Int32) {a : Nat} (h1 : 1 ≤ a) (h4 : a ≤ 4) : fr_X f a = fr_Y f (fun j => a - 1 - j) a := by
  have h : a = 1 ∨ a = 2 ∨ a = 3 ∨ a = 4 := by omega
  rcases h with rfl | rfl | rfl | rfl
  · rw [fr_1]
    show _ = (0 : Int32) ||| (f 0 <<< (nI 0 &&& 31))
    rw [fb_or0, fr_s0]
  · rw [fr_2]
    show _ = ((0 : Int32) ||| (f 0 <<< (nI 8 &&& 31))) ||| (f 1 <<< (nI 0 &&& 31))
    rw [fb_or0, fr_s0]
  · rw [fr_3]
    show _ = (((0 : Int32) ||| (f 0 <<< (nI 16 &&& 31))) ||| (f 1 <<< (nI 8 &&& 31))) ||| (f 2 <<< (nI 0 &&& 31))
    rw [fb_or0, fr_s0]
  · rw [fr_4]
    show _ = ((((0 : Int32) ||| (f 0 <<< (nI 24 &&& 31))) ||| (f 1 <<< (nI 16 &&& 31))) ||| (f 2 <<< (nI 8 &&& 31))) ||| (f 3 <<< (nI 0 &&& 31))
    rw [fb_or0, fr_s0]
/-- lowest byte first -/
theorem fr_low (f g : Nat → Int32) {a : Nat} (h1 : 1 ≤ a) (h4 : a ≤ 4) (h : ∀ i, i < a → f i = g (a - 1 - i)) : fr_X f a = fr_Y g (fun j => j) a := by
  have h' : a = 1 ∨ a = 2 ∨ a = 3 ∨ a = 4 := by omega
  rcases h' with rfl | rfl | rfl | rfl
  · rw [fr_1, h 0 (by omega)]
    show _ = (0 : Int32) ||| (g 0 <<< (nI 0 &&& 31))
    rw [fb_or0, fr_s0]
  · rw [fr_2, h 0 (by omega), h 1 (by omega)]
    show _ = ((0 : Int32) ||| (g 0 <<< (nI 0 &&& 31))) ||| (g 1 <<< (nI 8 &&& 31))
    rw [fb_or0, fr_s0, fb_orC]
  · rw [fr_3, h 0 (by omega), h 1 (by omega), h 2 (by omega)]
    show _ = (((0 : Int32) ||| (g 0 <<< (nI 0 &&& 31))) ||| (g 1 <<< (nI 8 &&& 31))) ||| (g 2 <<< (nI 16 &&& 31))
    rw [fb_or0, fr_s0, fr_r3]
  · rw [fr_4, h 0 (by omega), h 1 (by omega), h 2 (by omega), h 3 (by omega)]
    show _ = ((((0 : Int32) ||| (g 0 <<< (nI 0 &&& 31))) ||| (g 1 <<< (nI 8 &&& 31))) ||| (g 2 <<< (nI 16 &&& 31))) ||| (g 3 <<< (nI 24 &&& 31))
    rw [fb_or0, fr_s0, fr_r4]
