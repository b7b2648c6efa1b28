/-! ELSE and END -/
section
variable {xic xoc xfc xhf xil xll xol xea xwr xcu xfo xsp xpo xbl xli xvu yic ysz yfd yls ymd ysa ytk ydp yps ybi ysp yus ynx yra yrd : Int32} {iK iA iB xM xO xS FK FA FB FM inp lst out vs xR xL yO yN yS yT : Nat → Int32}
variable {N fd ll i sp p b lim us dp base S : Nat} {w : Bool}
theorem rs_12 (E : fr_E FK xR xL yO yN N fd lim S i dp w) (G : fw_Good FK FM N) (hK : ∀ j, j < N → ∃ c : Nat, c ≤ 13 ∧ FK j = nI c) (kc : FK i = 12) : ∃ i' : Nat, i < i' ∧ i' ≤ N ∧ fw_R FK xR xL yO yN (fw_base w fd) lim S (fw_st FK i') ∧ dp = (fw_st FK i').length ∧ (∀ post : Int32 → SX → Prop, post 0 (xic, xoc, nI N, xhf, nI fd, nI ll, xol, xea, fw_w w, nI i, nI i', nI sp, nI p, nI b, nI lim, nI us, iK, iA, iB, xM, xO, xS, FK, FA, FB, FM, inp, lst, out, vs, xR, xL) → wpX_doItem post (xic, xoc, nI N, xhf, nI fd, nI ll, xol, xea, fw_w w, nI i, nI (i + 1), nI sp, nI p, nI b, nI lim, nI us, iK, iA, iB, xM, xO, xS, FK, FA, FB, FM, inp, lst, out, vs, xR, xL) (nI 12) (FA i) (FB i)) ∧ (∀ post : Int32 → SY → Prop, post 0 (yic, nI N, nI fd, nI ll, ymd, ysa, ytk, nI dp, nI p, nI b, nI sp, nI us, nI i', yra, fw_r w, iK, iA, iB, FK, FA, FB, inp, lst, out, vs, yO, yN, yS, yT) → wpY_item post (yic, nI N, nI fd, nI ll, ymd, ysa, ytk, nI dp, nI p, nI b, nI sp, nI us, nI (i + 1), yra, fw_r w, iK, iA, iB, FK, FA, FB, inp, lst, out, vs, yO, yN, yS, yT) (nI i)) := by
  obtain ⟨hi, hlim, ci, vi⟩ := rE_i E
  obtain ⟨v, hv, ev, vv, cv⟩ := rE_v (FB i)
  obtain ⟨W, hN, hiN, hfd, R, hd, _⟩ := E
  obtain ⟨o, s, hs, ho5⟩ := (W i hiN).2.1 kc
  have hst := fw_st_el kc hs
  obtain ⟨a1, a2, a3, a4⟩ := fw_hd W i (by omega) o 0 s hs
  obtain ⟨t, e', t1, t2, t3, t4, t5, K⟩ := ry_eo W hN G.2.1 hK (N - (i + 1)) i o i [] s (by omega) hst (yic := yic) (ysz := nI N) (yfd := nI fd) (yls := nI ll) (ymd := ymd) (ysa := ysa) (ytk := ytk) (ydp := nI dp) (yps := nI p) (ybi := nI b) (ysp := nI sp) (yus := nI us) (ynx := nI (i + 1)) (yra := yra) (yrd := fw_r w) (iK := iK) (iA := iA) (iB := iB) (FA := FA) (FB := FB) (inp := inp) (lst := lst) (out := out) (vs := vs) (yO := yO) (yN := yN) (yS := yS) (yT := yT)
  rw [t5 (by omega)] at t4
  obtain ⟨m1, m2, m3⟩ := G.2.2 t t2 t3 o i s t4
  have em : FM (nI i).toNatClampNeg = nI t := by rw [ci]; exact (m3 (by omega)).2
  have ek : FK (nI i).toNatClampNeg = 12 := by rw [ci]; exact kc
  rw [hs] at R hd
  refine ⟨t, t1, by omega, ?_, by rw [t4]; exact hd, fun post H => nm_r ev (br_f (by decide) (br_f (by decide) (br_f (by decide) (br_f (by decide) (br_f (by decide) (br_f (by decide) (br_f (by decide) (br_f (by decide) (br_f (by decide) (br_f (by decide) (br_f (by decide) (br_f (by decide) (br_f (by decide) (br_f (by decide) (br_t (by decide) (⟨vi, nm_r em H⟩)))))))))))))))), fun post H => ⟨vi, nm_r ek (br_f (by decide) (br_t rfl ⟨N - (i + 1) + 1, K _ H⟩))⟩⟩
  rw [t4]
  exact fw_R_e i R
theorem rs_13 (E : fr_E FK xR xL yO yN N fd lim S i dp w) (G : fw_Good FK FM N) (hp : p ≤ lim) (hb : b ≤ 7) (hbp : 0 < b → 0 < p) (kc : FK i = 13) : (∃ (r : Int32) (b' : Nat), r ≠ 0 ∧ b' ≤ 7 ∧ (0 < b' → 0 < p) ∧ (∀ post : Int32 → SX → Prop, post r (xic, xoc, nI N, xhf, nI fd, nI ll, xol, xea, fw_w w, nI i, nI (i + 1), nI sp, nI p, nI b', nI lim, nI us, iK, iA, iB, xM, xO, xS, FK, FA, FB, FM, inp, lst, out, vs, xR, xL) → wpX_doItem post (xic, xoc, nI N, xhf, nI fd, nI ll, xol, xea, fw_w w, nI i, nI (i + 1), nI sp, nI p, nI b, nI lim, nI us, iK, iA, iB, xM, xO, xS, FK, FA, FB, FM, inp, lst, out, vs, xR, xL) (nI 13) (FA i) (FB i)) ∧ (∀ post : Int32 → SY → Prop, post r (yic, nI N, nI fd, nI ll, ymd, ysa, ytk, nI dp, nI p, nI b', nI sp, nI us, nI (i + 1), yra, fw_r w, iK, iA, iB, FK, FA, FB, inp, lst, out, vs, yO, yN, yS, yT) → wpY_item post (yic, nI N, nI fd, nI ll, ymd, ysa, ytk, nI dp, nI p, nI b, nI sp, nI us, nI (i + 1), yra, fw_r w, iK, iA, iB, FK, FA, FB, inp, lst, out, vs, yO, yN, yS, yT) (nI i))) ∨ (∃ (i' lim' S' dp' b' : Nat) (xR' yN' : Nat → Int32), i' ≤ N ∧ ((S' + 1 ≤ S) ∨ (S' ≤ S ∧ i < i')) ∧ p ≤ lim' ∧ b' ≤ 7 ∧ (0 < b' → 0 < p) ∧ fw_R FK xR' xL yO yN' (fw_base w fd) lim' S' (fw_st FK i') ∧ dp' = (fw_st FK i').length ∧ (∀ post : Int32 → SX → Prop, post 0 (xic, xoc, nI N, xhf, nI fd, nI ll, xol, xea, fw_w w, nI i, nI i', nI sp, nI p, nI b', nI lim', nI us, iK, iA, iB, xM, xO, xS, FK, FA, FB, FM, inp, lst, out, vs, xR', xL) → wpX_doItem post (xic, xoc, nI N, xhf, nI fd, nI ll, xol, xea, fw_w w, nI i, nI (i + 1), nI sp, nI p, nI b, nI lim, nI us, iK, iA, iB, xM, xO, xS, FK, FA, FB, FM, inp, lst, out, vs, xR, xL) (nI 13) (FA i) (FB i)) ∧ (∀ post : Int32 → SY → Prop, post 0 (yic, nI N, nI fd, nI ll, ymd, ysa, ytk, nI dp', nI p, nI b', nI sp, nI us, nI i', yra, fw_r w, iK, iA, iB, FK, FA, FB, inp, lst, out, vs, yO, yN', yS, yT) → wpY_item post (yic, nI N, nI fd, nI ll, ymd, ysa, ytk, nI dp, nI p, nI b, nI sp, nI us, nI (i + 1), yra, fw_r w, iK, iA, iB, FK, FA, FB, inp, lst, out, vs, yO, yN, yS, yT) (nI i))) := by
  obtain ⟨hi, hlim, ci, vi⟩ := rE_i E
  obtain ⟨v, hv, ev, vv, cv⟩ := rE_v (FB i)
  obtain ⟨W, hN, hiN, hfd, R, hd, _⟩ := E
  obtain ⟨o, e, s, hs⟩ := (W i hiN).2.2 kc
  have hst := fw_st_en kc hs
  obtain ⟨a1, a2, a3, a4⟩ := fw_hd W i (by omega) o e s hs
  obtain ⟨m1, m2, m3⟩ := G.2.2 i hiN kc o e s hs
  have l4 := fw_len W i (by omega)
  rw [hs] at R hd l4
  have hd' : dp = s.length + 1 := hd
  have l4' : s.length + 1 ≤ 4 := l4
  have hm : ∀ o' e', (o', e') ∈ s → o' < o := by
    intro o' e' q
    rw [a4] at q
    exact fw_mem_lt W o (by omega) o' e' q
  have eM : FM (nI i).toNatClampNeg = nI o := by rw [ci]; exact m1
  have vo : vp_in (nI o) 40 := vp_in_nI (by omega) (by omega)
  have co : (nI o).toNatClampNeg = o := nI_clamp (by omega)
  have ek : FK (nI i).toNatClampNeg = 13 := by rw [ci]; exact kc
  have ed : nI dp - 1 = nI s.length := by rw [hd']; exact nI_pred _
  have v5 : vp_in (nI s.length) 5 := vp_in_nI (by omega) (by omega)
  have cs : (nI s.length).toNatClampNeg = s.length := nI_clamp (by omega)
  have eo : yO (nI s.length).toNatClampNeg = nI o := by rw [cs]; exact fw_R_op R
  have vyo : vp_in (yO (nI s.length).toNatClampNeg) 40 := by rw [eo]; exact vo
  have eko : FK (yO (nI s.length).toNatClampNeg).toNatClampNeg = FK o := by rw [eo, co]
  have HX : ∀ post : Int32 → SX → Prop, wpX_leaveOpened (fun r u => match u with | (xic, xoc, xfc, xhf, xil, xll, xol, xea, xwr, xcu, xfo, xsp, xpo, xbl, xli, xvu, iK, iA, iB, xM, xO, xS, FK, FA, FB, FM, inp, lst, out, vs, xR, xL) => post r (xic, xoc, xfc, xhf, xil, xll, xol, xea, xwr, xcu, xfo, xsp, xpo, xbl, xli, xvu, iK, iA, iB, xM, xO, xS, FK, FA, FB, FM, inp, lst, out, vs, xR, xL)) (xic, xoc, nI N, xhf, nI fd, nI ll, xol, xea, fw_w w, nI i, nI (i + 1), nI sp, nI p, nI b, nI lim, nI us, iK, iA, iB, xM, xO, xS, FK, FA, FB, FM, inp, lst, out, vs, xR, xL) (nI o) → wpX_doItem post (xic, xoc, nI N, xhf, nI fd, nI ll, xol, xea, fw_w w, nI i, nI (i + 1), nI sp, nI p, nI b, nI lim, nI us, iK, iA, iB, xM, xO, xS, FK, FA, FB, FM, inp, lst, out, vs, xR, xL) (nI 13) (FA i) (FB i) := by
    intro post H
    refine nm_r ev (br_f (by decide) (br_t (by decide) ⟨vi, ?_⟩))
    rw [eM]
    exact H
  rcases a2 with k4 | k5 | k6
  · -- REPEAT
    have xk : FK (nI o).toNatClampNeg = 4 := by rw [co]; exact k4
    have yk : FK (yO (nI s.length).toNatClampNeg).toNatClampNeg = 4 := by rw [eko]; exact k4
    obtain ⟨x, S', x1, x2, x3, x4, x5, x6, x7⟩ := fw_R_t4 R hm k4
    have exr : upd xR (nI o).toNatClampNeg (xR (nI o).toNatClampNeg - 1) = upd xR o (nI (x - 1)) := by
      rw [co, x4]
      exact congrArg (upd xR o) (pk_sub (b := 1) x1)
    have eyn : upd yN (nI s.length).toNatClampNeg (yN (nI s.length).toNatClampNeg - 1) = upd yN s.length (nI (x - 1)) := by
      rw [cs, x3]
      exact congrArg (upd yN s.length) (pk_sub (b := 1) x1)
    have zx : upd xR o (nI (x - 1)) (nI o).toNatClampNeg = nI (x - 1) := by rw [co, pk_us]
    have zy : upd yN s.length (nI (x - 1)) (nI s.length).toNatClampNeg = nI (x - 1) := by rw [cs, pk_us]
    by_cases h1 : x = 1
    · have z1 : nI (x - 1) ≤ 0 := by rw [h1]; decide
      refine Or.inr ⟨i + 1, lim, S', s.length, b, upd xR o (nI (x - 1)), upd yN s.length (nI (x - 1)), by omega, Or.inl (by omega), hp, hb, hbp, by rw [hst]; exact x6 _ _, by rw [hst], fun post H => HX _ ⟨vo, br_t xk ⟨vo, vo, nm_r exr ⟨vo, br_t (by rw [zx]; exact z1) H⟩⟩⟩, fun post H => ⟨vi, nm_r ek (br_t rfl (nm_r ed ⟨v5, vyo, nm_r yk (br_f (by decide) (br_t (by decide) ⟨v5, v5, nm_r eyn ⟨v5, br_t (by rw [zy]; exact z1) (nm_r ed H)⟩⟩))⟩))⟩⟩
    · have z1 : ¬ nI (x - 1) ≤ 0 := nI_nle (by omega) (by omega)
      have hop : fw_Op FK o := Or.inl k4
      have hst2 := fw_st_op hop
      have eo2 : yO (nI s.length).toNatClampNeg + 1 = nI (o + 1) := by rw [eo]; exact nI_1 o
      refine Or.inr ⟨o + 1, lim, S' + (x - 1), dp, b, upd xR o (nI (x - 1)), upd yN s.length (nI (x - 1)), by omega, Or.inl (by omega), hp, hb, hbp, ?_, by rw [hst2, List.length_cons, ← a4]; exact hd', fun post H => HX _ ⟨vo, br_t xk ⟨vo, vo, nm_r exr ⟨vo, br_f (by rw [zx]; exact z1) (nm_r (nI_1 o) H)⟩⟩⟩, fun post H => ⟨vi, nm_r ek (br_t rfl (nm_r ed ⟨v5, vyo, nm_r yk (br_f (by decide) (br_t (by decide) ⟨v5, v5, nm_r eyn ⟨v5, br_f (by rw [zy]; exact z1) ⟨v5, nm_r eo2 H⟩⟩⟩))⟩))⟩⟩
      rw [hst2, ← a4]
      exact x7 0 (x - 1) (by omega) (by omega)
  · -- WHEN
    have xk4 : ¬ FK (nI o).toNatClampNeg = 4 := by rw [co, k5]; decide
    have xk6 : ¬ FK (nI o).toNatClampNeg = 6 := by rw [co, k5]; decide
    have yk : FK (yO (nI s.length).toNatClampNeg).toNatClampNeg = 5 := by rw [eko]; exact k5
    exact Or.inr ⟨i + 1, lim, S, s.length, b, xR, yN, by omega, Or.inr ⟨by omega, by omega⟩, hp, hb, hbp, by rw [hst]; exact fw_R_t5 R k5, by rw [hst], fun post H => HX _ ⟨vo, br_f xk4 ⟨vo, br_f xk6 H⟩⟩, fun post H => ⟨vi, nm_r ek (br_t rfl (nm_r ed ⟨v5, vyo, nm_r yk (br_f (by decide) (br_f (by decide) (nm_r ed H)))⟩))⟩⟩
  · -- BLOCK
    have xk4 : ¬ FK (nI o).toNatClampNeg = 4 := by rw [co, k6]; decide
    have xk6 : FK (nI o).toNatClampNeg = 6 := by rw [co]; exact k6
    have yk : FK (yO (nI s.length).toNatClampNeg).toNatClampNeg = 6 := by rw [eko]; exact k6
    obtain ⟨r1, lim', r2, r3, r4⟩ := fw_R_t6 R k6
    have eL : xL (nI o).toNatClampNeg = nI lim' := by rw [co]; exact r3
    have eN : yN (nI s.length).toNatClampNeg = nI lim := by rw [cs]; exact r1
    by_cases hpad : fw_pad w inp p b
    · exact Or.inl ⟨6, b, by decide, hb, hbp, fun post H => HX _ ⟨vo, br_f xk4 ⟨vo, br_t xk6 (rx_cl0 hpad hb hbp (by omega) (br_t rfl H))⟩⟩, fun post H => ⟨vi, nm_r ek (br_t rfl (nm_r ed ⟨v5, vyo, nm_r yk (br_t (by decide) (ry_cl0 hpad hb hbp (by omega) (br_f (by decide) H)))⟩))⟩⟩
    · by_cases hl : lim ≤ p
      · have epl : nI p = yN (nI s.length).toNatClampNeg := by rw [eN, show p = lim by omega]
        exact Or.inr ⟨i + 1, lim', S, s.length, 0, xR, yN, by omega, Or.inr ⟨by omega, by omega⟩, by omega, by omega, fun z => by omega, by rw [hst]; exact r4, by rw [hst], fun post H => HX _ ⟨vo, br_f xk4 ⟨vo, br_t xk6 (rx_cl1 hpad hb hbp (by omega) (br_f (by decide) (br_t (nI_le hl (by omega)) ⟨vo, nm_r eL H⟩)))⟩⟩, fun post H => ⟨vi, nm_r ek (br_t rfl (nm_r ed ⟨v5, vyo, nm_r yk (br_t (by decide) (ry_cl1 hpad hb hbp (by omega) (br_t rfl ⟨v5, br_t epl (br_f (by decide) (nm_r ed H))⟩)))⟩))⟩⟩
      · have epl : ¬ nI p = yN (nI s.length).toNatClampNeg := by
          rw [eN]
          intro z
          have := (nI_eq (by omega) (by omega)).mp z
          omega
        exact Or.inl ⟨7, 0, by decide, by omega, fun z => by omega, fun post H => HX _ ⟨vo, br_f xk4 ⟨vo, br_t xk6 (rx_cl1 hpad hb hbp (by omega) (br_f (by decide) (br_f (nI_ge (by omega) (by omega)) H)))⟩⟩, fun post H => ⟨vi, nm_r ek (br_t rfl (nm_r ed ⟨v5, vyo, nm_r yk (br_t (by decide) (ry_cl1 hpad hb hbp (by omega) (br_t rfl ⟨v5, br_f epl H⟩)))⟩))⟩⟩
end
