/-! put, kind by kind -/
def fp_in (x lo hi : Int32) : Int32 := if x < lo then 0 else if hi < x then 0 else 1
theorem fp_in01 (x lo hi : Int32) : fp_in x lo hi = 0 ∨ fp_in x lo hi = 1 := by
  unfold fp_in
  by_cases h1 : x < lo
  · rw [if_pos h1]; exact Or.inl rfl
  · rw [if_neg h1]
    by_cases h2 : hi < x
    · rw [if_pos h2]; exact Or.inl rfl
    · rw [if_neg h2]; exact Or.inr rfl
theorem fp_br {x lo hi : Int32} {P : Int32 → Prop} (h : P (fp_in x lo hi)) : (x < lo → P 0) ∧ (¬ x < lo → ((hi < x → P 0) ∧ (¬ hi < x → P 1))) := by
  unfold fp_in at h
  by_cases h1 : x < lo
  · rw [if_pos h1] at h; exact br_t h1 h
  · rw [if_neg h1] at h
    by_cases h2 : hi < x
    · rw [if_pos h2] at h; exact br_f h1 (br_t h2 h)
    · rw [if_neg h2] at h; exact br_f h1 (br_f h2 h)
theorem fp_87 (b : Int32) : (8 : Int32) ≤ b ↔ 7 < b := by
  rw [Int32.le_iff_toInt_le, Int32.lt_iff_toInt_lt, show (8 : Int32).toInt = 8 by decide, show (7 : Int32).toInt = 7 by decide]
  omega
theorem fp_br8 {x : Int32} {P : Int32 → Prop} (h : P (fp_in x 0 7)) : (x < 0 → P 0) ∧ (¬ x < 0 → ((8 ≤ x → P 0) ∧ (¬ 8 ≤ x → P 1))) := by
  rw [fp_87]
  exact fp_br h
theorem fp_1 {x : Int32} {lo hi : Nat} (h : fp_in x (nI lo) (nI hi) = 1) (hl : lo ≤ hi) (hh : hi < 2 ^ 31) : ∃ m : Nat, lo ≤ m ∧ m ≤ hi ∧ x = nI m := by
  unfold fp_in at h
  by_cases h1 : x < nI lo
  · rw [if_pos h1] at h; exact absurd h (by decide)
  · rw [if_neg h1] at h
    by_cases h2 : nI hi < x
    · rw [if_pos h2] at h; exact absurd h (by decide)
    · have h0 : ¬ x < 0 := by
        intro z
        apply h1
        exact Int32.lt_of_lt_of_le z (nI_pos' (by omega))
      obtain ⟨j, hj, rfl⟩ := nI_of h0
      rw [nI_ltI hj (by omega)] at h1
      rw [nI_ltI hh hj] at h2
      exact ⟨j, by omega, by omega, rfl⟩
theorem fp_w {x lo hi : Int32} {post : Int32 → Prop} (h : post (fp_in x lo hi)) : wpY_within post x lo hi := fp_br h
theorem fp_nb {r : Int32} (h : r = 0 ∨ r = 1) : narrow .boolean (.int r) = .int r := by
  rcases h with rfl | rfl
  · rfl
  · rfl
section
variable {xic xoc xfc xhf xil xll xol xea xwr xcu xfo xsp xpo xbl xli xvu yic ysz yfd yls ymd ysa ytk ydp yps ybi ysp yus ynx yra yrd : Int32} {iK iA iB xM xO xS FK FA FB FM inp lst out vs xR xL yO yN yS yT : Nat → Int32}

theorem fp_k0 (a b : Int32) : ∃ ra rb ry : Int32, (ra = 0 ∨ ra = 1) ∧ (rb = 0 ∨ rb = 1) ∧ (∀ post : Int32 → Prop, post ra → wpX_fitsAsA post (xic, xoc, xfc, xhf, xil, xll, xol, xea, xwr, xcu, xfo, xsp, xpo, xbl, xli, xvu, iK, iA, iB, xM, xO, xS, FK, FA, FB, FM, inp, lst, out, vs, xR, xL) 0 a) ∧ (∀ post : Int32 → Prop, post rb → wpX_fitsAsB post (xic, xoc, xfc, xhf, xil, xll, xol, xea, xwr, xcu, xfo, xsp, xpo, xbl, xli, xvu, iK, iA, iB, xM, xO, xS, FK, FA, FB, FM, inp, lst, out, vs, xR, xL) 0 b) ∧ (∀ post : Int32 → Prop, post ry → wpY_fits post 0 a b) ∧ ((ra = 0 ∨ rb = 0) → ry = 0) ∧ (ra = 1 → rb = 1 → ry = 1 ∧ fw_It 0 a) := by
  refine ⟨fp_in a 1 4, fp_in b 0 31, if fp_in a 1 4 = 0 then 0 else fp_in b 0 31, fp_in01 _ _ _, fp_in01 _ _ _, fun post h => br_f (by decide) (br_f (by decide) (br_t (by decide) (fp_br h))), fun post h => br_f (by decide) (br_f (by decide) (br_t (by decide) (fp_br h))), fun post h => ?_, ?_, ?_⟩
  · refine br_f (by decide) (br_f (by decide) (br_t (by decide) (fp_w ?_)))
    rcases fp_in01 a 1 4 with z | z
    · rw [if_pos z] at h; rw [z]; exact br_t rfl h
    · rw [if_neg (by rw [z]; decide)] at h; rw [z]; refine br_f (by decide) (fp_w ?_)
      rcases fp_in01 b 0 31 with y | y
      · rw [y] at h ⊢; exact br_t rfl h
      · rw [y] at h ⊢; exact br_f (by decide) h
  · intro z
    by_cases y : fp_in a 1 4 = 0
    · rw [if_pos y]
    · rw [if_neg y]; exact z.resolve_left y
  · intro z1 z2
    rw [if_neg (by rw [z1]; decide)]
    exact ⟨z2, ⟨0, by decide, rfl, fun z => fp_1 (lo := 1) (hi := 4) z1 (by decide) (by decide), fun z => absurd z (by decide), fun z => absurd z (by decide)⟩⟩
theorem fp_k1 (a b : Int32) : ∃ ra rb ry : Int32, (ra = 0 ∨ ra = 1) ∧ (rb = 0 ∨ rb = 1) ∧ (∀ post : Int32 → Prop, post ra → wpX_fitsAsA post (xic, xoc, xfc, xhf, xil, xll, xol, xea, xwr, xcu, xfo, xsp, xpo, xbl, xli, xvu, iK, iA, iB, xM, xO, xS, FK, FA, FB, FM, inp, lst, out, vs, xR, xL) 1 a) ∧ (∀ post : Int32 → Prop, post rb → wpX_fitsAsB post (xic, xoc, xfc, xhf, xil, xll, xol, xea, xwr, xcu, xfo, xsp, xpo, xbl, xli, xvu, iK, iA, iB, xM, xO, xS, FK, FA, FB, FM, inp, lst, out, vs, xR, xL) 1 b) ∧ (∀ post : Int32 → Prop, post ry → wpY_fits post 1 a b) ∧ ((ra = 0 ∨ rb = 0) → ry = 0) ∧ (ra = 1 → rb = 1 → ry = 1 ∧ fw_It 1 a) := by
  refine ⟨1, fp_in b 0 7, fp_in b 0 7, Or.inr rfl, fp_in01 _ _ _, fun post h => br_f (by decide) (br_f (by decide) (br_f (by decide) (br_t (by decide) (h)))), fun post h => br_f (by decide) (br_f (by decide) (br_f (by decide) (br_t (by decide) (fp_br8 h)))), fun post h => ?_, ?_, ?_⟩
  · refine br_f (by decide) (br_f (by decide) (br_f (by decide) (br_t (by decide) (?_))))
    refine fp_w (br_f (by decide) (fp_w ?_))
    rcases fp_in01 b 0 7 with y | y
    · rw [y] at h ⊢; exact br_t rfl h
    · rw [y] at h ⊢; exact br_f (by decide) h
  · intro z; exact z.resolve_left (by decide)
  · intro z1 z2; exact ⟨z2, ⟨1, by decide, rfl, fun z => absurd z (by decide), fun z => absurd z (by decide), fun z => absurd z (by decide)⟩⟩
theorem fp_k2 (a b : Int32) : ∃ ra rb ry : Int32, (ra = 0 ∨ ra = 1) ∧ (rb = 0 ∨ rb = 1) ∧ (∀ post : Int32 → Prop, post ra → wpX_fitsAsA post (xic, xoc, xfc, xhf, xil, xll, xol, xea, xwr, xcu, xfo, xsp, xpo, xbl, xli, xvu, iK, iA, iB, xM, xO, xS, FK, FA, FB, FM, inp, lst, out, vs, xR, xL) 2 a) ∧ (∀ post : Int32 → Prop, post rb → wpX_fitsAsB post (xic, xoc, xfc, xhf, xil, xll, xol, xea, xwr, xcu, xfo, xsp, xpo, xbl, xli, xvu, iK, iA, iB, xM, xO, xS, FK, FA, FB, FM, inp, lst, out, vs, xR, xL) 2 b) ∧ (∀ post : Int32 → Prop, post ry → wpY_fits post 2 a b) ∧ ((ra = 0 ∨ rb = 0) → ry = 0) ∧ (ra = 1 → rb = 1 → ry = 1 ∧ fw_It 2 a) := by
  refine ⟨fp_in a 1 16, fp_in b 0 7, if fp_in a 1 16 = 0 then 0 else fp_in b 0 7, fp_in01 _ _ _, fp_in01 _ _ _, fun post h => br_f (by decide) (br_f (by decide) (br_f (by decide) (br_f (by decide) (br_t (by decide) (fp_br h))))), fun post h => br_f (by decide) (br_f (by decide) (br_f (by decide) (br_f (by decide) (br_t (by decide) (fp_br8 h))))), fun post h => ?_, ?_, ?_⟩
  · refine br_f (by decide) (br_f (by decide) (br_f (by decide) (br_f (by decide) (br_t (by decide) (fp_w ?_)))))
    rcases fp_in01 a 1 16 with z | z
    · rw [if_pos z] at h; rw [z]; exact br_t rfl h
    · rw [if_neg (by rw [z]; decide)] at h; rw [z]; refine br_f (by decide) (fp_w ?_)
      rcases fp_in01 b 0 7 with y | y
      · rw [y] at h ⊢; exact br_t rfl h
      · rw [y] at h ⊢; exact br_f (by decide) h
  · intro z
    by_cases y : fp_in a 1 16 = 0
    · rw [if_pos y]
    · rw [if_neg y]; exact z.resolve_left y
  · intro z1 z2
    rw [if_neg (by rw [z1]; decide)]
    exact ⟨z2, ⟨2, by decide, rfl, fun z => absurd z (by decide), fun z => fp_1 (lo := 1) (hi := 16) z1 (by decide) (by decide), fun z => absurd z (by decide)⟩⟩
theorem fp_k3 (a b : Int32) : ∃ ra rb ry : Int32, (ra = 0 ∨ ra = 1) ∧ (rb = 0 ∨ rb = 1) ∧ (∀ post : Int32 → Prop, post ra → wpX_fitsAsA post (xic, xoc, xfc, xhf, xil, xll, xol, xea, xwr, xcu, xfo, xsp, xpo, xbl, xli, xvu, iK, iA, iB, xM, xO, xS, FK, FA, FB, FM, inp, lst, out, vs, xR, xL) 3 a) ∧ (∀ post : Int32 → Prop, post rb → wpX_fitsAsB post (xic, xoc, xfc, xhf, xil, xll, xol, xea, xwr, xcu, xfo, xsp, xpo, xbl, xli, xvu, iK, iA, iB, xM, xO, xS, FK, FA, FB, FM, inp, lst, out, vs, xR, xL) 3 b) ∧ (∀ post : Int32 → Prop, post ry → wpY_fits post 3 a b) ∧ ((ra = 0 ∨ rb = 0) → ry = 0) ∧ (ra = 1 → rb = 1 → ry = 1 ∧ fw_It 3 a) := by
  refine ⟨fp_in a 0 255, 1, fp_in a 0 255, fp_in01 _ _ _, Or.inr rfl, fun post h => br_f (by decide) (br_f (by decide) (br_f (by decide) (br_f (by decide) (br_f (by decide) (br_t (by decide) (fp_br h)))))), fun post h => br_f (by decide) (br_f (by decide) (br_f (by decide) (br_f (by decide) (br_f (by decide) (br_t (by decide) (h)))))), fun post h => ?_, ?_, ?_⟩
  · exact br_f (by decide) (br_f (by decide) (br_f (by decide) (br_f (by decide) (br_f (by decide) (br_t (by decide) (fp_w ⟨fp_nb (fp_in01 _ _ _), h⟩))))))
  · intro z; exact z.resolve_right (by decide)
  · intro z1 z2; exact ⟨z1, ⟨3, by decide, rfl, fun z => absurd z (by decide), fun z => absurd z (by decide), fun z => absurd z (by decide)⟩⟩
theorem fp_k4 (a b : Int32) : ∃ ra rb ry : Int32, (ra = 0 ∨ ra = 1) ∧ (rb = 0 ∨ rb = 1) ∧ (∀ post : Int32 → Prop, post ra → wpX_fitsAsA post (xic, xoc, xfc, xhf, xil, xll, xol, xea, xwr, xcu, xfo, xsp, xpo, xbl, xli, xvu, iK, iA, iB, xM, xO, xS, FK, FA, FB, FM, inp, lst, out, vs, xR, xL) 4 a) ∧ (∀ post : Int32 → Prop, post rb → wpX_fitsAsB post (xic, xoc, xfc, xhf, xil, xll, xol, xea, xwr, xcu, xfo, xsp, xpo, xbl, xli, xvu, iK, iA, iB, xM, xO, xS, FK, FA, FB, FM, inp, lst, out, vs, xR, xL) 4 b) ∧ (∀ post : Int32 → Prop, post ry → wpY_fits post 4 a b) ∧ ((ra = 0 ∨ rb = 0) → ry = 0) ∧ (ra = 1 → rb = 1 → ry = 1 ∧ fw_It 4 a) := by
  refine ⟨1, fp_in b 0 7, fp_in b 0 7, Or.inr rfl, fp_in01 _ _ _, fun post h => br_f (by decide) (br_f (by decide) (br_f (by decide) (br_f (by decide) (br_f (by decide) (br_f (by decide) (br_t (by decide) (h))))))), fun post h => br_f (by decide) (br_f (by decide) (br_f (by decide) (br_f (by decide) (br_f (by decide) (br_f (by decide) (br_t (by decide) (fp_br8 h))))))), fun post h => ?_, ?_, ?_⟩
  · refine br_f (by decide) (br_f (by decide) (br_f (by decide) (br_f (by decide) (br_f (by decide) (br_f (by decide) (br_t (by decide) (?_)))))))
    refine fp_w (br_f (by decide) (fp_w ?_))
    rcases fp_in01 b 0 7 with y | y
    · rw [y] at h ⊢; exact br_t rfl h
    · rw [y] at h ⊢; exact br_f (by decide) h
  · intro z; exact z.resolve_left (by decide)
  · intro z1 z2; exact ⟨z2, ⟨4, by decide, rfl, fun z => absurd z (by decide), fun z => absurd z (by decide), fun z => absurd z (by decide)⟩⟩
theorem fp_k5 (a b : Int32) : ∃ ra rb ry : Int32, (ra = 0 ∨ ra = 1) ∧ (rb = 0 ∨ rb = 1) ∧ (∀ post : Int32 → Prop, post ra → wpX_fitsAsA post (xic, xoc, xfc, xhf, xil, xll, xol, xea, xwr, xcu, xfo, xsp, xpo, xbl, xli, xvu, iK, iA, iB, xM, xO, xS, FK, FA, FB, FM, inp, lst, out, vs, xR, xL) 5 a) ∧ (∀ post : Int32 → Prop, post rb → wpX_fitsAsB post (xic, xoc, xfc, xhf, xil, xll, xol, xea, xwr, xcu, xfo, xsp, xpo, xbl, xli, xvu, iK, iA, iB, xM, xO, xS, FK, FA, FB, FM, inp, lst, out, vs, xR, xL) 5 b) ∧ (∀ post : Int32 → Prop, post ry → wpY_fits post 5 a b) ∧ ((ra = 0 ∨ rb = 0) → ry = 0) ∧ (ra = 1 → rb = 1 → ry = 1 ∧ fw_It 5 a) := by
  refine ⟨1, fp_in b 0 7, fp_in b 0 7, Or.inr rfl, fp_in01 _ _ _, fun post h => br_f (by decide) (br_f (by decide) (br_f (by decide) (br_f (by decide) (br_f (by decide) (br_f (by decide) (br_f (by decide) (br_t (by decide) (h)))))))), fun post h => br_f (by decide) (br_f (by decide) (br_f (by decide) (br_f (by decide) (br_f (by decide) (br_f (by decide) (br_f (by decide) (br_t (by decide) (fp_br8 h)))))))), fun post h => ?_, ?_, ?_⟩
  · refine br_f (by decide) (br_f (by decide) (br_f (by decide) (br_f (by decide) (br_f (by decide) (br_f (by decide) (br_f (by decide) (br_t (by decide) (?_))))))))
    refine fp_w (br_f (by decide) (fp_w ?_))
    rcases fp_in01 b 0 7 with y | y
    · rw [y] at h ⊢; exact br_t rfl h
    · rw [y] at h ⊢; exact br_f (by decide) h
  · intro z; exact z.resolve_left (by decide)
  · intro z1 z2; exact ⟨z2, ⟨5, by decide, rfl, fun z => absurd z (by decide), fun z => absurd z (by decide), fun z => absurd z (by decide)⟩⟩
theorem fp_k6 (a b : Int32) : ∃ ra rb ry : Int32, (ra = 0 ∨ ra = 1) ∧ (rb = 0 ∨ rb = 1) ∧ (∀ post : Int32 → Prop, post ra → wpX_fitsAsA post (xic, xoc, xfc, xhf, xil, xll, xol, xea, xwr, xcu, xfo, xsp, xpo, xbl, xli, xvu, iK, iA, iB, xM, xO, xS, FK, FA, FB, FM, inp, lst, out, vs, xR, xL) 6 a) ∧ (∀ post : Int32 → Prop, post rb → wpX_fitsAsB post (xic, xoc, xfc, xhf, xil, xll, xol, xea, xwr, xcu, xfo, xsp, xpo, xbl, xli, xvu, iK, iA, iB, xM, xO, xS, FK, FA, FB, FM, inp, lst, out, vs, xR, xL) 6 b) ∧ (∀ post : Int32 → Prop, post ry → wpY_fits post 6 a b) ∧ ((ra = 0 ∨ rb = 0) → ry = 0) ∧ (ra = 1 → rb = 1 → ry = 1 ∧ fw_It 6 a) := by
  refine ⟨1, fp_in b 0 7, fp_in b 0 7, Or.inr rfl, fp_in01 _ _ _, fun post h => br_f (by decide) (br_f (by decide) (br_f (by decide) (br_f (by decide) (br_f (by decide) (br_f (by decide) (br_f (by decide) (br_f (by decide) (br_t (by decide) (h))))))))), fun post h => br_f (by decide) (br_f (by decide) (br_f (by decide) (br_f (by decide) (br_f (by decide) (br_f (by decide) (br_f (by decide) (br_f (by decide) (br_t (by decide) (fp_br8 h))))))))), fun post h => ?_, ?_, ?_⟩
  · refine br_f (by decide) (br_f (by decide) (br_f (by decide) (br_f (by decide) (br_f (by decide) (br_f (by decide) (br_f (by decide) (br_f (by decide) (br_t (by decide) (?_)))))))))
    refine fp_w (br_f (by decide) (fp_w ?_))
    rcases fp_in01 b 0 7 with y | y
    · rw [y] at h ⊢; exact br_t rfl h
    · rw [y] at h ⊢; exact br_f (by decide) h
  · intro z; exact z.resolve_left (by decide)
  · intro z1 z2; exact ⟨z2, ⟨6, by decide, rfl, fun z => absurd z (by decide), fun z => absurd z (by decide), fun z => absurd z (by decide)⟩⟩
theorem fp_k7 (a b : Int32) : ∃ ra rb ry : Int32, (ra = 0 ∨ ra = 1) ∧ (rb = 0 ∨ rb = 1) ∧ (∀ post : Int32 → Prop, post ra → wpX_fitsAsA post (xic, xoc, xfc, xhf, xil, xll, xol, xea, xwr, xcu, xfo, xsp, xpo, xbl, xli, xvu, iK, iA, iB, xM, xO, xS, FK, FA, FB, FM, inp, lst, out, vs, xR, xL) 7 a) ∧ (∀ post : Int32 → Prop, post rb → wpX_fitsAsB post (xic, xoc, xfc, xhf, xil, xll, xol, xea, xwr, xcu, xfo, xsp, xpo, xbl, xli, xvu, iK, iA, iB, xM, xO, xS, FK, FA, FB, FM, inp, lst, out, vs, xR, xL) 7 b) ∧ (∀ post : Int32 → Prop, post ry → wpY_fits post 7 a b) ∧ ((ra = 0 ∨ rb = 0) → ry = 0) ∧ (ra = 1 → rb = 1 → ry = 1 ∧ fw_It 7 a) := by
  refine ⟨1, 1, 1, Or.inr rfl, Or.inr rfl, fun post h => br_f (by decide) (br_f (by decide) (br_f (by decide) (br_f (by decide) (br_f (by decide) (br_f (by decide) (br_f (by decide) (br_f (by decide) (br_f (by decide) (br_t (by decide) (h)))))))))), fun post h => br_f (by decide) (br_f (by decide) (br_f (by decide) (br_f (by decide) (br_f (by decide) (br_f (by decide) (br_f (by decide) (br_f (by decide) (br_f (by decide) (br_t (by decide) (h)))))))))), fun post h => ?_, ?_, ?_⟩
  · exact br_f (by decide) (br_f (by decide) (br_f (by decide) (br_f (by decide) (br_f (by decide) (br_f (by decide) (br_f (by decide) (br_f (by decide) (br_f (by decide) (br_t (by decide) (h))))))))))
  · intro z; exact absurd z (by decide)
  · intro z1 z2; exact ⟨rfl, ⟨7, by decide, rfl, fun z => absurd z (by decide), fun z => absurd z (by decide), fun z => absurd z (by decide)⟩⟩
theorem fp_k8 (a b : Int32) : ∃ ra rb ry : Int32, (ra = 0 ∨ ra = 1) ∧ (rb = 0 ∨ rb = 1) ∧ (∀ post : Int32 → Prop, post ra → wpX_fitsAsA post (xic, xoc, xfc, xhf, xil, xll, xol, xea, xwr, xcu, xfo, xsp, xpo, xbl, xli, xvu, iK, iA, iB, xM, xO, xS, FK, FA, FB, FM, inp, lst, out, vs, xR, xL) 8 a) ∧ (∀ post : Int32 → Prop, post rb → wpX_fitsAsB post (xic, xoc, xfc, xhf, xil, xll, xol, xea, xwr, xcu, xfo, xsp, xpo, xbl, xli, xvu, iK, iA, iB, xM, xO, xS, FK, FA, FB, FM, inp, lst, out, vs, xR, xL) 8 b) ∧ (∀ post : Int32 → Prop, post ry → wpY_fits post 8 a b) ∧ ((ra = 0 ∨ rb = 0) → ry = 0) ∧ (ra = 1 → rb = 1 → ry = 1 ∧ fw_It 8 a) := by
  refine ⟨fp_in a 2 8, 1, fp_in a 2 8, fp_in01 _ _ _, Or.inr rfl, fun post h => br_f (by decide) (br_f (by decide) (br_f (by decide) (br_f (by decide) (br_f (by decide) (br_f (by decide) (br_f (by decide) (br_f (by decide) (br_f (by decide) (br_f (by decide) (br_t (by decide) (fp_br h))))))))))), fun post h => br_f (by decide) (br_f (by decide) (br_f (by decide) (br_f (by decide) (br_f (by decide) (br_f (by decide) (br_f (by decide) (br_f (by decide) (br_f (by decide) (br_f (by decide) (br_t (by decide) (h))))))))))), fun post h => ?_, ?_, ?_⟩
  · exact br_f (by decide) (br_f (by decide) (br_f (by decide) (br_f (by decide) (br_f (by decide) (br_f (by decide) (br_f (by decide) (br_f (by decide) (br_f (by decide) (br_f (by decide) (br_t (by decide) (fp_w ⟨fp_nb (fp_in01 _ _ _), h⟩)))))))))))
  · intro z; exact z.resolve_right (by decide)
  · intro z1 z2; exact ⟨z1, ⟨8, by decide, rfl, fun z => absurd z (by decide), fun z => absurd z (by decide), fun z => fp_1 (lo := 2) (hi := 8) z1 (by decide) (by decide)⟩⟩
theorem fp_k9 (a b : Int32) : ∃ ra rb ry : Int32, (ra = 0 ∨ ra = 1) ∧ (rb = 0 ∨ rb = 1) ∧ (∀ post : Int32 → Prop, post ra → wpX_fitsAsA post (xic, xoc, xfc, xhf, xil, xll, xol, xea, xwr, xcu, xfo, xsp, xpo, xbl, xli, xvu, iK, iA, iB, xM, xO, xS, FK, FA, FB, FM, inp, lst, out, vs, xR, xL) 9 a) ∧ (∀ post : Int32 → Prop, post rb → wpX_fitsAsB post (xic, xoc, xfc, xhf, xil, xll, xol, xea, xwr, xcu, xfo, xsp, xpo, xbl, xli, xvu, iK, iA, iB, xM, xO, xS, FK, FA, FB, FM, inp, lst, out, vs, xR, xL) 9 b) ∧ (∀ post : Int32 → Prop, post ry → wpY_fits post 9 a b) ∧ ((ra = 0 ∨ rb = 0) → ry = 0) ∧ (ra = 1 → rb = 1 → ry = 1 ∧ fw_It 9 a) := by
  refine ⟨1, fp_in b 0 7, fp_in b 0 7, Or.inr rfl, fp_in01 _ _ _, fun post h => br_f (by decide) (br_t (by decide) (h)), fun post h => br_f (by decide) (br_f (by decide) (br_f (by decide) (br_f (by decide) (br_f (by decide) (br_f (by decide) (br_f (by decide) (br_f (by decide) (br_f (by decide) (br_f (by decide) (br_f (by decide) (br_t (by decide) (fp_br8 h)))))))))))), fun post h => ?_, ?_, ?_⟩
  · refine br_f (by decide) (br_f (by decide) (br_f (by decide) (br_f (by decide) (br_f (by decide) (br_f (by decide) (br_f (by decide) (br_f (by decide) (br_f (by decide) (br_f (by decide) (br_f (by decide) (br_t (by decide) (?_))))))))))))
    refine fp_w (br_f (by decide) (fp_w ?_))
    rcases fp_in01 b 0 7 with y | y
    · rw [y] at h ⊢; exact br_t rfl h
    · rw [y] at h ⊢; exact br_f (by decide) h
  · intro z; exact z.resolve_left (by decide)
  · intro z1 z2; exact ⟨z2, ⟨9, by decide, rfl, fun z => absurd z (by decide), fun z => absurd z (by decide), fun z => absurd z (by decide)⟩⟩
theorem fp_k10 (a b : Int32) : ∃ ra rb ry : Int32, (ra = 0 ∨ ra = 1) ∧ (rb = 0 ∨ rb = 1) ∧ (∀ post : Int32 → Prop, post ra → wpX_fitsAsA post (xic, xoc, xfc, xhf, xil, xll, xol, xea, xwr, xcu, xfo, xsp, xpo, xbl, xli, xvu, iK, iA, iB, xM, xO, xS, FK, FA, FB, FM, inp, lst, out, vs, xR, xL) 10 a) ∧ (∀ post : Int32 → Prop, post rb → wpX_fitsAsB post (xic, xoc, xfc, xhf, xil, xll, xol, xea, xwr, xcu, xfo, xsp, xpo, xbl, xli, xvu, iK, iA, iB, xM, xO, xS, FK, FA, FB, FM, inp, lst, out, vs, xR, xL) 10 b) ∧ (∀ post : Int32 → Prop, post ry → wpY_fits post 10 a b) ∧ ((ra = 0 ∨ rb = 0) → ry = 0) ∧ (ra = 1 → rb = 1 → ry = 1 ∧ fw_It 10 a) := by
  refine ⟨1, fp_in b 0 7, fp_in b 0 7, Or.inr rfl, fp_in01 _ _ _, fun post h => br_f (by decide) (br_t (by decide) (h)), fun post h => br_f (by decide) (br_f (by decide) (br_f (by decide) (br_f (by decide) (br_f (by decide) (br_f (by decide) (br_f (by decide) (br_f (by decide) (br_f (by decide) (br_f (by decide) (br_f (by decide) (br_f (by decide) (br_t (by decide) (fp_br8 h))))))))))))), fun post h => ?_, ?_, ?_⟩
  · refine br_f (by decide) (br_f (by decide) (br_f (by decide) (br_f (by decide) (br_f (by decide) (br_f (by decide) (br_f (by decide) (br_f (by decide) (br_f (by decide) (br_f (by decide) (br_f (by decide) (br_f (by decide) (br_t (by decide) (?_)))))))))))))
    refine fp_w (br_f (by decide) (fp_w ?_))
    rcases fp_in01 b 0 7 with y | y
    · rw [y] at h ⊢; exact br_t rfl h
    · rw [y] at h ⊢; exact br_f (by decide) h
  · intro z; exact z.resolve_left (by decide)
  · intro z1 z2; exact ⟨z2, ⟨10, by decide, rfl, fun z => absurd z (by decide), fun z => absurd z (by decide), fun z => absurd z (by decide)⟩⟩
theorem fp_k11 (a b : Int32) : ∃ ra rb ry : Int32, (ra = 0 ∨ ra = 1) ∧ (rb = 0 ∨ rb = 1) ∧ (∀ post : Int32 → Prop, post ra → wpX_fitsAsA post (xic, xoc, xfc, xhf, xil, xll, xol, xea, xwr, xcu, xfo, xsp, xpo, xbl, xli, xvu, iK, iA, iB, xM, xO, xS, FK, FA, FB, FM, inp, lst, out, vs, xR, xL) 11 a) ∧ (∀ post : Int32 → Prop, post rb → wpX_fitsAsB post (xic, xoc, xfc, xhf, xil, xll, xol, xea, xwr, xcu, xfo, xsp, xpo, xbl, xli, xvu, iK, iA, iB, xM, xO, xS, FK, FA, FB, FM, inp, lst, out, vs, xR, xL) 11 b) ∧ (∀ post : Int32 → Prop, post ry → wpY_fits post 11 a b) ∧ ((ra = 0 ∨ rb = 0) → ry = 0) ∧ (ra = 1 → rb = 1 → ry = 1 ∧ fw_It 11 a) := by
  refine ⟨1, fp_in b 0 7, fp_in b 0 7, Or.inr rfl, fp_in01 _ _ _, fun post h => br_f (by decide) (br_t (by decide) (h)), fun post h => br_f (by decide) (br_f (by decide) (br_f (by decide) (br_f (by decide) (br_f (by decide) (br_f (by decide) (br_f (by decide) (br_f (by decide) (br_f (by decide) (br_f (by decide) (br_f (by decide) (br_f (by decide) (br_f (by decide) (br_t (by decide) (fp_br8 h)))))))))))))), fun post h => ?_, ?_, ?_⟩
  · refine br_f (by decide) (br_f (by decide) (br_f (by decide) (br_f (by decide) (br_f (by decide) (br_f (by decide) (br_f (by decide) (br_f (by decide) (br_f (by decide) (br_f (by decide) (br_f (by decide) (br_f (by decide) (br_f (by decide) (br_t (by decide) (?_))))))))))))))
    refine fp_w (br_f (by decide) (fp_w ?_))
    rcases fp_in01 b 0 7 with y | y
    · rw [y] at h ⊢; exact br_t rfl h
    · rw [y] at h ⊢; exact br_f (by decide) h
  · intro z; exact z.resolve_left (by decide)
  · intro z1 z2; exact ⟨z2, ⟨11, by decide, rfl, fun z => absurd z (by decide), fun z => absurd z (by decide), fun z => absurd z (by decide)⟩⟩
theorem fp_k12 (a b : Int32) : ∃ ra rb ry : Int32, (ra = 0 ∨ ra = 1) ∧ (rb = 0 ∨ rb = 1) ∧ (∀ post : Int32 → Prop, post ra → wpX_fitsAsA post (xic, xoc, xfc, xhf, xil, xll, xol, xea, xwr, xcu, xfo, xsp, xpo, xbl, xli, xvu, iK, iA, iB, xM, xO, xS, FK, FA, FB, FM, inp, lst, out, vs, xR, xL) 12 a) ∧ (∀ post : Int32 → Prop, post rb → wpX_fitsAsB post (xic, xoc, xfc, xhf, xil, xll, xol, xea, xwr, xcu, xfo, xsp, xpo, xbl, xli, xvu, iK, iA, iB, xM, xO, xS, FK, FA, FB, FM, inp, lst, out, vs, xR, xL) 12 b) ∧ (∀ post : Int32 → Prop, post ry → wpY_fits post 12 a b) ∧ ((ra = 0 ∨ rb = 0) → ry = 0) ∧ (ra = 1 → rb = 1 → ry = 1 ∧ fw_It 12 a) := by
  refine ⟨1, 1, 1, Or.inr rfl, Or.inr rfl, fun post h => br_f (by decide) (br_t (by decide) (h)), fun post h => br_f (by decide) (br_f (by decide) (br_f (by decide) (br_f (by decide) (br_f (by decide) (br_f (by decide) (br_f (by decide) (br_f (by decide) (br_f (by decide) (br_f (by decide) (br_f (by decide) (br_f (by decide) (br_f (by decide) (br_f (by decide) (br_t (by decide) (h))))))))))))))), fun post h => ?_, ?_, ?_⟩
  · exact br_f (by decide) (br_f (by decide) (br_f (by decide) (br_f (by decide) (br_f (by decide) (br_f (by decide) (br_f (by decide) (br_f (by decide) (br_f (by decide) (br_f (by decide) (br_f (by decide) (br_f (by decide) (br_f (by decide) (br_f (by decide) (br_t (by decide) (h)))))))))))))))
  · intro z; exact absurd z (by decide)
  · intro z1 z2; exact ⟨rfl, ⟨12, by decide, rfl, fun z => absurd z (by decide), fun z => absurd z (by decide), fun z => absurd z (by decide)⟩⟩
theorem fp_k13 (a b : Int32) : ∃ ra rb ry : Int32, (ra = 0 ∨ ra = 1) ∧ (rb = 0 ∨ rb = 1) ∧ (∀ post : Int32 → Prop, post ra → wpX_fitsAsA post (xic, xoc, xfc, xhf, xil, xll, xol, xea, xwr, xcu, xfo, xsp, xpo, xbl, xli, xvu, iK, iA, iB, xM, xO, xS, FK, FA, FB, FM, inp, lst, out, vs, xR, xL) 13 a) ∧ (∀ post : Int32 → Prop, post rb → wpX_fitsAsB post (xic, xoc, xfc, xhf, xil, xll, xol, xea, xwr, xcu, xfo, xsp, xpo, xbl, xli, xvu, iK, iA, iB, xM, xO, xS, FK, FA, FB, FM, inp, lst, out, vs, xR, xL) 13 b) ∧ (∀ post : Int32 → Prop, post ry → wpY_fits post 13 a b) ∧ ((ra = 0 ∨ rb = 0) → ry = 0) ∧ (ra = 1 → rb = 1 → ry = 1 ∧ fw_It 13 a) := by
  refine ⟨1, 1, 1, Or.inr rfl, Or.inr rfl, fun post h => br_f (by decide) (br_t (by decide) (h)), fun post h => br_f (by decide) (br_f (by decide) (br_f (by decide) (br_f (by decide) (br_f (by decide) (br_f (by decide) (br_f (by decide) (br_f (by decide) (br_f (by decide) (br_f (by decide) (br_f (by decide) (br_f (by decide) (br_f (by decide) (br_f (by decide) (br_f (by decide) (br_t (by decide) (h)))))))))))))))), fun post h => ?_, ?_, ?_⟩
  · exact br_f (by decide) (br_f (by decide) (br_f (by decide) (br_f (by decide) (br_f (by decide) (br_f (by decide) (br_f (by decide) (br_f (by decide) (br_f (by decide) (br_f (by decide) (br_f (by decide) (br_f (by decide) (br_f (by decide) (br_f (by decide) (br_f (by decide) (br_t (by decide) (h))))))))))))))))
  · intro z; exact absurd z (by decide)
  · intro z1 z2; exact ⟨rfl, ⟨13, by decide, rfl, fun z => absurd z (by decide), fun z => absurd z (by decide), fun z => absurd z (by decide)⟩⟩
theorem fp_all (a b : Int32) {c : Nat} (hc : c ≤ 13) : ∃ ra rb ry : Int32, (ra = 0 ∨ ra = 1) ∧ (rb = 0 ∨ rb = 1) ∧ (∀ post : Int32 → Prop, post ra → wpX_fitsAsA post (xic, xoc, xfc, xhf, xil, xll, xol, xea, xwr, xcu, xfo, xsp, xpo, xbl, xli, xvu, iK, iA, iB, xM, xO, xS, FK, FA, FB, FM, inp, lst, out, vs, xR, xL) (nI c) a) ∧ (∀ post : Int32 → Prop, post rb → wpX_fitsAsB post (xic, xoc, xfc, xhf, xil, xll, xol, xea, xwr, xcu, xfo, xsp, xpo, xbl, xli, xvu, iK, iA, iB, xM, xO, xS, FK, FA, FB, FM, inp, lst, out, vs, xR, xL) (nI c) b) ∧ (∀ post : Int32 → Prop, post ry → wpY_fits post (nI c) a b) ∧ ((ra = 0 ∨ rb = 0) → ry = 0) ∧ (ra = 1 → rb = 1 → ry = 1 ∧ fw_It (nI c) a) := by
  have h : c = 0 ∨ c = 1 ∨ c = 2 ∨ c = 3 ∨ c = 4 ∨ c = 5 ∨ c = 6 ∨ c = 7 ∨ c = 8 ∨ c = 9 ∨ c = 10 ∨ c = 11 ∨ c = 12 ∨ c = 13 := by omega
  rcases h with rfl | rfl | rfl | rfl | rfl | rfl | rfl | rfl | rfl | rfl | rfl | rfl | rfl | rfl
  · exact fp_k0 a b
  · exact fp_k1 a b
  · exact fp_k2 a b
  · exact fp_k3 a b
  · exact fp_k4 a b
  · exact fp_k5 a b
  · exact fp_k6 a b
  · exact fp_k7 a b
  · exact fp_k8 a b
  · exact fp_k9 a b
  · exact fp_k10 a b
  · exact fp_k11 a b
  · exact fp_k12 a b
  · exact fp_k13 a b
theorem fp_neg {k a b : Int32} (h : k < 0) : ∀ post : Int32 → Prop, post 0 → wpY_fits post k a b := by
  intro post hp
  refine br_t h ?_
  refine fp_w ?_
  have e : fp_in k 0 13 = 0 := by unfold fp_in; rw [if_pos h]
  rw [e]
  exact br_t rfl hp
theorem fp_big {k a b : Int32} (h0 : ¬ k < 0) (h : 13 < k) : ∀ post : Int32 → Prop, post 0 → wpY_fits post k a b := by
  intro post hp
  refine br_f h0 (br_t h ?_)
  refine fp_w ?_
  have e : fp_in k 0 13 = 0 := by unfold fp_in; rw [if_neg h0, if_pos h]
  rw [e]
  exact br_t rfl hp
end
theorem i_vc_put {k : Nat} {u : SX} {v : SY} (I : i_Rel k u v) (hk : k + 4 ≤ 2048) (v1 : Int32) (v2 : Int32) (v3 : Int32) : wpX_put (fun r u' => wpY_put (fun r' v' => r' = r ∧ i_Rel (k + 4) u' v') v v1 v2 v3) u v1 v2 v3 := by
  have J := I
  obtain ⟨xic, xoc, xfc, xhf, xil, xll, xol, xea, xwr, xcu, xfo, xsp, xpo, xbl, xli, xvu, iK, iA, iB, xM, xO, xS, FK, FA, FB, FM, inp, lst, out, vs, xR, xL⟩ := u
  obtain ⟨yic, ysz, yfd, yls, ymd, ysa, ytk, ydp, yps, ybi, ysp, yus, ynx, yra, yrd, yK, yA, yB, zK, zA, zB, yin, ylst, yout, yvs, yO, yN, yS, yT⟩ := v
  obtain ⟨n, fd, ll, md, rfl, rfl, rfl, rfl, rfl, rfl, rfl, rfl, rfl, rfl, rfl, rfl, rfl, rfl, rfl, rfl, rfl, rfl, rfl, rfl, h1, h2, h3, h4, h5, h6⟩ := I
  have hE : n = 40 → nI n = (40 : Int32) := fun e => by rw [e]; rfl
  have hN : n < 40 → ¬ nI n = (40 : Int32) := fun e z => by
    have := (nI_eq (a := n) (b := 40) (by omega) (by omega)).mp z
    omega
  have hYf : ∀ ry : Int32, (ry = 0 ∨ ry = 1) → (ry = 1 → n = 40) → (∀ post : Int32 → Prop, post ry → wpY_fits post v1 v2 v3) → wpY_put (fun r' v' => r' = -1 ∧ i_Rel (k + 4) (nI n, xoc, xfc, xhf, nI fd, nI ll, nI md, xea, xwr, xcu, xfo, xsp, xpo, xbl, xli, xvu, iK, iA, iB, xM, xO, xS, FK, FA, FB, FM, inp, lst, out, vs, xR, xL) v') (nI n, ysz, nI fd, nI ll, nI md, xea, xpo, ydp, yps, ybi, ysp, yus, ynx, yra, yrd, iK, iA, iB, FK, FA, FB, inp, lst, out, vs, yO, yN, yS, yT) v1 v2 v3 := by
    intro ry h01 hn H
    unfold wpY_put
    dsimp only
    refine H _ ?_
    rcases h01 with rfl | rfl
    · exact br_t rfl ⟨rfl, J⟩
    · exact br_f (by decide) (br_t (hE (hn rfl)) ⟨rfl, J⟩)
  by_cases c0 : v1 < 0
  · have Y := hYf 0 (Or.inl rfl) (fun z => absurd z (by decide)) (fp_neg c0)
    by_cases c40 : (40 : Int32) ≤ nI n
    · exact br_t c40 Y
    · exact br_f c40 (br_t c0 Y)
  · by_cases c13 : v1 ≤ 13
    · obtain ⟨c, hc, rfl⟩ := nI_of2 (n := 13) (by decide) c0 c13
      obtain ⟨ra, rb, ry, qa, qb, HA, HB, HY, z0, z1⟩ := fp_all v2 v3 hc (xic := nI n) (xoc := xoc) (xfc := xfc) (xhf := xhf) (xil := nI fd) (xll := nI ll) (xol := nI md) (xea := xea) (xwr := xwr) (xcu := xcu) (xfo := xfo) (xsp := xsp) (xpo := xpo) (xbl := xbl) (xli := xli) (xvu := xvu) (iK := iK) (iA := iA) (iB := iB) (xM := xM) (xO := xO) (xS := xS) (FK := FK) (FA := FA) (FB := FB) (FM := FM) (inp := inp) (lst := lst) (out := out) (vs := vs) (xR := xR) (xL := xL)
      have qy : ry = 0 ∨ ry = 1 := by
        rcases qa with qa | qa
        · exact Or.inl (z0 (Or.inl qa))
        · rcases qb with qb | qb
          · exact Or.inl (z0 (Or.inr qb))
          · exact Or.inr (z1 qa qb).1
      by_cases hn : n < 40
      · have c40 : ¬ (40 : Int32) ≤ nI n := nI_ge (b := 40) hn (by decide)
        refine br_f c40 (br_f c0 (br_t c13 (HA _ ?_)))
        rcases qa with rfl | rfl
        · refine br_t rfl (hYf ry qy (fun z => ?_) HY)
          have := z0 (Or.inl rfl)
          rw [this] at z
          exact absurd z (by decide)
        · refine br_f (by decide) (HB _ ?_)
          rcases qb with rfl | rfl
          · refine br_t rfl (hYf ry qy (fun z => ?_) HY)
            have := z0 (Or.inr rfl)
            rw [this] at z
            exact absurd z (by decide)
          · obtain ⟨rfl, hit⟩ := z1 rfl rfl
            have hi : vp_in (nI n) 40 := vp_in_nI hn (by omega)
            have ec : (nI n).toNatClampNeg = n := nI_clamp (by omega)
            have e1 : nI n + 1 = nI (n + 1) := nI_1 n
            refine br_f (by decide) ⟨hi, nm_r (by rw [ec]) ⟨hi, nm_r (by rw [ec]) ⟨hi, nm_r (by rw [ec]) (nm_r e1 ?_)⟩⟩⟩
            unfold wpY_put
            dsimp only
            refine HY _ (br_f (by decide) (br_f (hN hn) ⟨hi, nm_r (by rw [ec]) ⟨hi, nm_r (by rw [ec]) (nm_r e1 ⟨hi, nm_r (by rw [ec]) ?_⟩)⟩⟩))
            refine ⟨rfl, n + 1, fd, ll, md, rfl, rfl, rfl, rfl, rfl, rfl, rfl, rfl, rfl, rfl, rfl, rfl, rfl, rfl, rfl, rfl, rfl, rfl, rfl, rfl, hn, h2, h3, h4, ?_, h6⟩
            intro j hj
            by_cases e : j = n
            · subst e
              rw [pk_us, pk_us]
              exact hit
            · rw [pk_un e, pk_un e]
              exact h5 j (by omega)
      · have c40 : (40 : Int32) ≤ nI n := nI_le (a := 40) (by omega) (by omega)
        exact br_t c40 (hYf ry qy (fun _ => by omega) HY)
    · have c13' : 13 < v1 := Int32.not_le.mp c13
      have Y := hYf 0 (Or.inl rfl) (fun z => absurd z (by decide)) (fp_big c0 c13')
      by_cases c40 : (40 : Int32) ≤ nI n
      · exact br_t c40 Y
      · exact br_f c40 (br_f c0 (br_f c13 Y))
