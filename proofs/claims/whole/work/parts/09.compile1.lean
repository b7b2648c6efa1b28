/-! compile: how the items nest -/
def fw_T (K xO yO : Nat → Int32) : List (Nat × Nat) → Prop
  | [] => True
  | (o, e) :: s => xO s.length = nI o ∧ (e = 0 → yO s.length = K o) ∧ (e ≠ 0 → yO s.length = 12) ∧ fw_T K xO yO s
theorem fw_T_fr {K xO yO xO' yO' : Nat → Int32} : ∀ s : List (Nat × Nat), fw_T K xO yO s → (∀ d, d < s.length → xO' d = xO d ∧ yO' d = yO d) → fw_T K xO' yO' s := by
  intro s
  induction s with
  | nil => intro _ _; trivial
  | cons a s ih =>
    intro h hd
    obtain ⟨o, e⟩ := a
    obtain ⟨p1, p2, p3, p4⟩ := h
    obtain ⟨d1, d2⟩ := hd s.length (Nat.lt_succ_self _)
    exact ⟨by rw [d1]; exact p1, fun z => by rw [d2]; exact p2 z, fun z => by rw [d2]; exact p3 z, ih p4 (fun d hd' => hd d (Nat.lt_succ_of_lt hd'))⟩
theorem fx_m1 {i : Nat} (h : i < 2 ^ 31) : ¬ nI i = -1 := fun z => nI_pos h (by rw [z]; decide)
theorem fx_op4 {k : Int32} (h : k = 4 ∨ k = 5 ∨ k = 6) : ¬ k < 4 ∧ ¬ 6 < k ∧ ¬ k = 12 ∧ ¬ k = 13 ∧ k ≤ 6 := by
  rcases h with rfl | rfl | rfl <;> decide
theorem fx_no4 {c : Nat} (hc : c ≤ 13) (h : ¬ (nI c = 4 ∨ nI c = 5 ∨ nI c = 6)) : nI c < 4 ∨ (¬ nI c < 4 ∧ 6 < nI c ∧ ¬ nI c ≤ 6) := by
  by_cases h4 : c < 4
  · exact Or.inl (nI_lt (b := 4) h4 (by decide))
  · have h7 : 7 ≤ c := by
      rcases Nat.lt_or_ge c 7 with z | z
      · exfalso
        have : c = 4 ∨ c = 5 ∨ c = 6 := by omega
        apply h
        rcases this with rfl | rfl | rfl
        · exact Or.inl rfl
        · exact Or.inr (Or.inl rfl)
        · exact Or.inr (Or.inr rfl)
      · exact z
    exact Or.inr ⟨nI_nlt (b := 4) (by omega) (by omega), nI_lt (a := 6) (by omega) (by omega), nI_ge (a := 6) (by omega) (by omega)⟩
section
variable {xic xoc xfc xhf xil xll xol xea xwr xcu xfo xsp xpo xbl xli xvu yic ysz yfd yls ymd ysa ytk ydp yps ybi ysp yus ynx yra yrd : Int32} {iK iA iB xM xO xS FK FA FB FM inp lst out vs xR xL yO yN yS yT : Nat → Int32}
theorem fx_op1 {post : Int32 → Prop} {k : Int32} (h : k = 4 ∨ k = 5 ∨ k = 6) (hp : post 1) : wpX_opens post (xic, xoc, xfc, xhf, xil, xll, xol, xea, xwr, xcu, xfo, xsp, xpo, xbl, xli, xvu, iK, iA, iB, xM, xO, xS, FK, FA, FB, FM, inp, lst, out, vs, xR, xL) k := by
  by_cases h4 : k = 4
  · exact br_t h4 hp
  · by_cases h5 : k = 5
    · exact br_f h4 (br_t h5 hp)
    · exact br_f h4 (br_f h5 (br_t ((h.resolve_left h4).resolve_left h5) hp))
theorem fx_op0 {post : Int32 → Prop} {k : Int32} (h : ¬ (k = 4 ∨ k = 5 ∨ k = 6)) (hp : post 0) : wpX_opens post (xic, xoc, xfc, xhf, xil, xll, xol, xea, xwr, xcu, xfo, xsp, xpo, xbl, xli, xvu, iK, iA, iB, xM, xO, xS, FK, FA, FB, FM, inp, lst, out, vs, xR, xL) k :=
  br_f (fun z => h (Or.inl z)) (br_f (fun z => h (Or.inr (Or.inl z))) (br_f (fun z => h (Or.inr (Or.inr z))) hp))
theorem fc_lock {n : Nat} (hn : n ≤ 40) (hK : ∀ j, j < n → ∃ c : Nat, c ≤ 13 ∧ iK j = nI c) : ∀ (d i oc : Nat) (xO xM yO : Nat → Int32), i + d = n → fw_Wf iK i → (fw_st iK i).length = oc → fw_T iK xO yO (fw_st iK i) → fw_Mt iK xM i → fw_Mo iK xM i →
    ∃ (r oc' : Int32) (xO' xM' yO' : Nat → Int32), (∀ post : Int32 → SX → Prop, post r (nI n, oc', xfc, xhf, xil, xll, xol, xea, xwr, xcu, xfo, xsp, xpo, xbl, xli, xvu, iK, iA, iB, xM', xO', xS, FK, FA, FB, FM, inp, lst, out, vs, xR, xL) → wX_findStructureFault_7 post (d + 1) (nI i) (nI n) (nI oc) xfc xhf xil xll xol xea xwr xcu xfo xsp xpo xbl xli xvu iK iA iB xM xO xS FK FA FB FM inp lst out vs xR xL) ∧ (∀ post : Int32 → SY → Prop, post r (nI n, ysz, yfd, yls, ymd, ysa, ytk, ydp, yps, ybi, ysp, yus, ynx, yra, yrd, iK, iA, iB, FK, FA, FB, inp, lst, out, vs, yO', yN, yS, yT) → wY_loose_4 post (nI n) ysz yfd yls ymd ysa ytk ydp yps ybi ysp yus ynx yra yrd (d + 1) (nI oc) (nI i) iK iA iB FK FA FB inp lst out vs yO yN yS yT) ∧ ((r = -1 ∧ fw_Good iK xM' n) ∨ (¬ r < 0 ∧ ¬ r = -1)) := by
  intro d
  induction d with
  | zero =>
    intro i oc xO xM yO hi W hoc hT hM hO
    have ei : i = n := by omega
    rw [ei] at W hoc hT hM hO
    rw [ei]
    have c1 : nI n ≤ nI n := nI_le (by omega) (by omega)
    cases hs : fw_st iK n with
    | nil =>
      rw [hs] at hoc
      have e0 : oc = 0 := hoc.symm
      rw [e0]
      exact ⟨-1, nI 0, xO, xM, yO, fun post hp => br_t c1 (br_t (by decide) hp), fun post hp => br_t c1 (br_t (by decide) hp), Or.inl ⟨rfl, W, hs, hM⟩⟩
    | cons a s =>
      rw [hs] at hoc
      have l4 := fw_len W n (by omega)
      rw [hs, hoc] at l4
      have e0 : 0 < oc := by rw [← hoc]; exact Nat.succ_pos _
      have c2 : ¬ nI oc ≤ 0 := nI_nle e0 (by omega)
      exact ⟨nI n, nI oc, xO, xM, yO, fun post hp => br_t c1 (br_f c2 hp), fun post hp => br_t c1 (br_f c2 hp), Or.inr ⟨nI_pos (by omega), fx_m1 (by omega)⟩⟩
  | succ d ih =>
    intro i oc xO xM yO hi W hoc hT hM hO
    have c1 : ¬ nI n ≤ nI i := nI_ge (by omega) (by omega)
    have vi : vp_in (nI i) 40 := vp_in_nI (by omega) (by omega)
    have ci : (nI i).toNatClampNeg = i := nI_clamp (by omega)
    have l4 := fw_len W i (by omega)
    rw [hoc] at l4
    have eK : iK (nI i).toNatClampNeg = iK i := by rw [ci]
    have bad : ¬ nI i < 0 ∧ ¬ nI i = -1 := ⟨nI_pos (by omega), fx_m1 (by omega)⟩
    by_cases h1 : fw_Op iK i
    · obtain ⟨k1, k2, k3, k4, k5⟩ := fx_op4 h1
      by_cases ho : oc < 4
      · have w1 : nI oc < (4 : Int32) := nI_lt (b := 4) ho (by decide)
        have w2 : ¬ nI oc = (4 : Int32) := fun z => by
          have := (nI_eq (a := oc) (b := 4) (by omega) (by omega)).mp z
          omega
        have v4 : vp_in (nI oc) 4 := vp_in_nI ho (by omega)
        have v5 : vp_in (nI oc) 5 := vp_in_nI (by omega) (by omega)
        have co : (nI oc).toNatClampNeg = oc := nI_clamp (by omega)
        have W' : fw_Wf iK (i + 1) := fw_Wf_s W (fun _ => by rw [hoc]; exact ho) (fun z => absurd z k3) (fun z => absurd z k4)
        obtain ⟨M1, M2⟩ := fw_M_op W hM hO h1
        have hst := fw_st_op h1
        have hT' : fw_T iK (upd xO oc (nI i)) (upd yO oc (iK i)) (fw_st iK (i + 1)) := by
          rw [hst]
          refine ⟨by rw [hoc, pk_us], fun _ => by rw [hoc, pk_us], fun z => absurd rfl z, ?_⟩
          exact fw_T_fr _ hT (fun d hd => by rw [hoc] at hd; exact ⟨pk_un (by omega), pk_un (by omega)⟩)
        obtain ⟨r, oc', xO', xM', yO', HX, HY, hr⟩ := ih (i + 1) (oc + 1) (upd xO oc (nI i)) (upd xM i (-1)) (upd yO oc (iK i)) (by omega) W' (by rw [hst, List.length_cons, hoc]) hT' M1 M2
        refine ⟨r, oc', xO', xM', yO', fun post hp => br_f c1 ⟨vi, nm_r eK (fx_op1 h1 (br_f (by decide) ?_))⟩, fun post hp => br_f c1 ⟨vi, nm_r eK (br_f k1 (br_f k2 (br_f w2 (nm_r (nI_1 oc) ⟨v5, nm_r (by rw [co]) ?_⟩))))⟩, hr⟩
        · refine br_t w1 ⟨v4, nm_r (by rw [co]) (nm_r (nI_1 oc) ⟨vi, nm_r (by rw [ci]) ?_⟩)⟩
          exact br_f (by decide) (nm_r (nI_1 i) (HX post hp))
        · exact br_f k3 (br_f k4 (nm_r (nI_1 i) (HY post hp)))
      · have w1 : ¬ nI oc < (4 : Int32) := nI_nlt (b := 4) (by omega) (by omega)
        have w2 : nI oc = (4 : Int32) := by rw [show oc = 4 by omega]; rfl
        exact ⟨nI i, nI oc, xO, xM, yO, fun post hp => br_f c1 ⟨vi, nm_r eK (fx_op1 h1 (br_f (by decide) (br_f w1 (br_t rfl hp))))⟩, fun post hp => br_f c1 ⟨vi, nm_r eK (br_f k1 (br_f k2 (br_t w2 hp)))⟩, Or.inr bad⟩
    · obtain ⟨c, hc, ec⟩ := hK i (by omega)
      have HYn : ∀ (post : Int32 → SY → Prop) (J : Int32 → Int32 → (Nat → Int32) → (Nat → Int32) → (Nat → Int32) → (Nat → Int32) → (Nat → Int32) → (Nat → Int32) → (Nat → Int32) → (Nat → Int32) → (Nat → Int32) → (Nat → Int32) → (Nat → Int32) → (Nat → Int32) → (Nat → Int32) → (Nat → Int32) → Prop) (A : Prop), wY_loose_47 post J (nI oc) (nI i) (iK i) (nI n) ysz yfd yls ymd ysa ytk ydp yps ybi ysp yus ynx yra yrd iK iA iB FK FA FB inp lst out vs yO yN yS yT → (iK i < 4 → wY_loose_47 post J (nI oc) (nI i) (iK i) (nI n) ysz yfd yls ymd ysa ytk ydp yps ybi ysp yus ynx yra yrd iK iA iB FK FA FB inp lst out vs yO yN yS yT) ∧ (¬ iK i < 4 → ((6 < iK i → wY_loose_47 post J (nI oc) (nI i) (iK i) (nI n) ysz yfd yls ymd ysa ytk ydp yps ybi ysp yus ynx yra yrd iK iA iB FK FA FB inp lst out vs yO yN yS yT) ∧ (¬ 6 < iK i → A))) := by
        intro post J A h
        have q : iK i < 4 ∨ (¬ iK i < 4 ∧ 6 < iK i ∧ ¬ iK i ≤ 6) := by
          rw [ec]
          exact fx_no4 hc (by rw [← ec]; exact h1)
        rcases q with q | ⟨q1, q2, q3⟩
        · exact br_t q h
        · exact br_f q1 (br_t q2 h)
      by_cases h2 : iK i = 12
      · have n13 : ¬ iK i = 13 := by rw [h2]; decide
        cases hs : fw_st iK i with
        | nil =>
          rw [hs] at hoc
          have e0 : oc = 0 := hoc.symm
          rw [e0]
          rw [e0] at HYn
          exact ⟨nI i, nI 0, xO, xM, yO, fun post hp => br_f c1 ⟨vi, nm_r eK (fx_op0 h1 (br_t rfl (br_t h2 (br_t rfl (br_t rfl hp)))))⟩, fun post hp => br_f c1 ⟨vi, nm_r eK (HYn _ _ _ (br_t h2 (br_t rfl hp)))⟩, Or.inr bad⟩
        | cons a s =>
          obtain ⟨o, e⟩ := a
          obtain ⟨a1, a2, a3, a4⟩ := fw_hd W i (by omega) o e s hs
          rw [hs] at hT hoc
          obtain ⟨t1, t2, t3, t4⟩ := hT
          have eo : s.length + 1 = oc := hoc
          have z0 : ¬ nI oc = 0 := nI_ne0 (by omega) (by omega)
          have em : nI oc - 1 = nI s.length := by rw [← eo]; exact nI_pred _
          have v4 : vp_in (nI oc - 1) 4 := by rw [em]; exact vp_in_nI (by omega) (by omega)
          have v5 : vp_in (nI oc - 1) 5 := by rw [em]; exact vp_in_nI (by omega) (by omega)
          have cm : (nI oc - 1).toNatClampNeg = s.length := by rw [em]; exact nI_clamp (by omega)
          have x2 : xO (nI oc - 1).toNatClampNeg = nI o := by rw [cm]; exact t1
          have vo : vp_in (nI o) 40 := vp_in_nI (by omega) (by omega)
          have co : (nI o).toNatClampNeg = o := nI_clamp (by omega)
          have mo := hO o e (by rw [hs]; exact List.mem_cons.mpr (Or.inl rfl))
          by_cases h5 : iK o = 5
          · have x5 : iK (nI o).toNatClampNeg = 5 := by rw [co]; exact h5
            by_cases he : e = 0
            · have xm : xM (nI o).toNatClampNeg = -1 := by rw [co]; exact mo.1 he
              have y5 : yO (nI oc - 1).toNatClampNeg = 5 := by rw [cm, t2 he]; exact h5
              rw [he] at hs
              have W' : fw_Wf iK (i + 1) := fw_Wf_s W (fun z => absurd z h1) (fun _ => ⟨o, s, hs, h5⟩) (fun z => absurd z n13)
              obtain ⟨M1, M2⟩ := fw_M_el W hM hO h2 hs
              have hst := fw_st_el h2 hs
              have hT' : fw_T iK xO (upd yO s.length 12) (fw_st iK (i + 1)) := by
                rw [hst]
                exact ⟨t1, fun z => by omega, fun _ => pk_us, fw_T_fr s t4 (fun d hd => ⟨rfl, pk_un (by omega)⟩)⟩
              obtain ⟨r, oc', xO', xM', yO', HX, HY, hr⟩ := ih (i + 1) oc xO (upd xM o (nI i)) (upd yO s.length 12) (by omega) W' (by rw [hst]; exact hoc) hT' M1 M2
              refine ⟨r, oc', xO', xM', yO', fun post hp => br_f c1 ⟨vi, nm_r eK (fx_op0 h1 (br_t rfl (br_t h2 (br_f z0 ⟨v4, nm_r x2 ⟨vo, br_t x5 ⟨vo, br_t xm ⟨vo, nm_r (by rw [co]) ?_⟩⟩⟩⟩))))⟩, fun post hp => br_f c1 ⟨vi, nm_r eK (HYn _ _ _ (br_t h2 (br_f z0 ⟨v5, br_t y5 ⟨v5, nm_r (by rw [cm]) ?_⟩⟩)))⟩, hr⟩
              · exact br_f (by decide) (nm_r (nI_1 i) (HX post hp))
              · exact br_f n13 (nm_r (nI_1 i) (HY post hp))
            · have xm : ¬ xM (nI o).toNatClampNeg = -1 := by
                rw [co, mo.2 he]
                rcases a3 with a3 | a3
                · exact absurd a3 he
                · exact fx_m1 (by omega)
              have y5 : ¬ yO (nI oc - 1).toNatClampNeg = 5 := by rw [cm, t3 he]; decide
              exact ⟨nI i, nI oc, xO, xM, yO, fun post hp => br_f c1 ⟨vi, nm_r eK (fx_op0 h1 (br_t rfl (br_t h2 (br_f z0 ⟨v4, nm_r x2 ⟨vo, br_t x5 ⟨vo, br_f xm (br_t rfl hp)⟩⟩⟩))))⟩, fun post hp => br_f c1 ⟨vi, nm_r eK (HYn _ _ _ (br_t h2 (br_f z0 ⟨v5, br_f y5 hp⟩)))⟩, Or.inr bad⟩
          · have x5 : ¬ iK (nI o).toNatClampNeg = 5 := by rw [co]; exact h5
            have y5 : ¬ yO (nI oc - 1).toNatClampNeg = 5 := by
              rw [cm]
              by_cases he : e = 0
              · rw [t2 he]; exact h5
              · rw [t3 he]; decide
            exact ⟨nI i, nI oc, xO, xM, yO, fun post hp => br_f c1 ⟨vi, nm_r eK (fx_op0 h1 (br_t rfl (br_t h2 (br_f z0 ⟨v4, nm_r x2 ⟨vo, br_f x5 (br_t rfl hp)⟩⟩))))⟩, fun post hp => br_f c1 ⟨vi, nm_r eK (HYn _ _ _ (br_t h2 (br_f z0 ⟨v5, br_f y5 hp⟩)))⟩, Or.inr bad⟩
      · by_cases h3 : iK i = 13
        · cases hs : fw_st iK i with
          | nil =>
            rw [hs] at hoc
            have e0 : oc = 0 := hoc.symm
            rw [e0]
            rw [e0] at HYn
            exact ⟨nI i, nI 0, xO, xM, yO, fun post hp => br_f c1 ⟨vi, nm_r eK (fx_op0 h1 (br_t rfl (br_f h2 (br_t h3 (br_t rfl (br_t rfl hp))))))⟩, fun post hp => br_f c1 ⟨vi, nm_r eK (HYn _ _ _ (br_f h2 (br_t h3 (br_t rfl hp))))⟩, Or.inr bad⟩
          | cons a s =>
            obtain ⟨o, e⟩ := a
            obtain ⟨a1, a2, a3, a4⟩ := fw_hd W i (by omega) o e s hs
            rw [hs] at hT hoc
            obtain ⟨t1, t2, t3, t4⟩ := hT
            have eo : s.length + 1 = oc := hoc
            have z0 : ¬ nI oc = 0 := nI_ne0 (by omega) (by omega)
            have em : nI oc - 1 = nI s.length := by rw [← eo]; exact nI_pred _
            have em' : nI oc + (-1) = nI s.length := by rw [← eo]; exact pk_m1 _
            have v4 : vp_in (nI s.length) 4 := vp_in_nI (by omega) (by omega)
            have cm : (nI s.length).toNatClampNeg = s.length := nI_clamp (by omega)
            have x2 : xO (nI s.length).toNatClampNeg = nI o := by rw [cm]; exact t1
            have vo : vp_in (nI o) 40 := vp_in_nI (by omega) (by omega)
            have co : (nI o).toNatClampNeg = o := nI_clamp (by omega)
            have mo := hO o e (by rw [hs]; exact List.mem_cons.mpr (Or.inl rfl))
            have W' : fw_Wf iK (i + 1) := fw_Wf_s W (fun z => absurd z h1) (fun z => absurd z h2) (fun _ => ⟨o, e, s, hs⟩)
            have hst := fw_st_en h3 hs
            have hT' : fw_T iK xO yO (fw_st iK (i + 1)) := by rw [hst]; exact t4
            by_cases he : e = 0
            · have xm : xM (nI o).toNatClampNeg = -1 := by rw [co]; exact mo.1 he
              obtain ⟨M1, M2⟩ := fw_M_en (m := o) W hM hO h3 hs (fun _ => rfl) (fun z => absurd he z)
              obtain ⟨r, oc', xO', xM', yO', HX, HY, hr⟩ := ih (i + 1) s.length xO (upd (upd xM o (nI i)) i (nI o)) yO (by omega) W' (by rw [hst]) hT' M1 M2
              refine ⟨r, oc', xO', xM', yO', fun post hp => br_f c1 ⟨vi, nm_r eK (fx_op0 h1 (br_t rfl (br_f h2 (br_t h3 (br_f z0 (nm_r em ⟨v4, nm_r x2 ⟨vo, nm_r xm (br_t rfl ⟨vo, nm_r (by rw [co]) ⟨vi, nm_r (by rw [ci]) ?_⟩⟩)⟩⟩))))))⟩, fun post hp => br_f c1 ⟨vi, nm_r eK (HYn _ _ _ (br_f h2 (br_t h3 (br_f z0 (nm_r em' (nm_r (nI_1 i) (HY post hp)))))))⟩, hr⟩
              exact br_f (by decide) (nm_r (nI_1 i) (HX post hp))
            · have he' : e < i := by
                rcases a3 with a3 | a3
                · exact absurd a3 he
                · exact a3.2.1
              have xm : xM (nI o).toNatClampNeg = nI e := by rw [co]; exact mo.2 he
              have ve : vp_in (nI e) 40 := vp_in_nI (by omega) (by omega)
              have ce : (nI e).toNatClampNeg = e := nI_clamp (by omega)
              obtain ⟨M1, M2⟩ := fw_M_en (m := e) W hM hO h3 hs (fun z => absurd z he) (fun _ => rfl)
              obtain ⟨r, oc', xO', xM', yO', HX, HY, hr⟩ := ih (i + 1) s.length xO (upd (upd xM e (nI i)) i (nI o)) yO (by omega) W' (by rw [hst]) hT' M1 M2
              refine ⟨r, oc', xO', xM', yO', fun post hp => br_f c1 ⟨vi, nm_r eK (fx_op0 h1 (br_t rfl (br_f h2 (br_t h3 (br_f z0 (nm_r em ⟨v4, nm_r x2 ⟨vo, nm_r xm (br_f (fx_m1 (by omega)) ⟨ve, nm_r (by rw [ce]) ⟨vi, nm_r (by rw [ci]) ?_⟩⟩)⟩⟩))))))⟩, fun post hp => br_f c1 ⟨vi, nm_r eK (HYn _ _ _ (br_f h2 (br_t h3 (br_f z0 (nm_r em' (nm_r (nI_1 i) (HY post hp)))))))⟩, hr⟩
              exact br_f (by decide) (nm_r (nI_1 i) (HX post hp))
        · have hst := fw_st_no h1 h2 h3
          have W' : fw_Wf iK (i + 1) := fw_Wf_s W (fun z => absurd z h1) (fun z => absurd z h2) (fun z => absurd z h3)
          obtain ⟨M1, M2⟩ := fw_M_no hM hO h1 h2 h3
          obtain ⟨r, oc', xO', xM', yO', HX, HY, hr⟩ := ih (i + 1) oc xO xM yO (by omega) W' (by rw [hst]; exact hoc) (by rw [hst]; exact hT) M1 M2
          exact ⟨r, oc', xO', xM', yO', fun post hp => br_f c1 ⟨vi, nm_r eK (fx_op0 h1 (br_t rfl (br_f h2 (br_f h3 (br_f (by decide) (nm_r (nI_1 i) (HX post hp)))))))⟩, fun post hp => br_f c1 ⟨vi, nm_r eK (HYn _ _ _ (br_f h2 (br_f h3 (nm_r (nI_1 i) (HY post hp)))))⟩, hr⟩
end
