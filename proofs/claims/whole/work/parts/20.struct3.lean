/-! REPEAT, WHEN, BLOCK, ELSE, END -/
section
variable {xic xoc xfc xhf xil xll xol xea xwr xcu xfo xsp xpo xbl xli xvu yic ysz yfd yls ymd ysa ytk ydp yps ybi ysp yus ynx yra yrd : Int32} {iK iA iB xM xO xS FK FA FB FM inp lst out vs xR xL yO yN yS yT : Nat → Int32}
variable {N fd ll i sp p b lim us dp base S : Nat} {w : Bool}
theorem rs_4 (E : fr_E FK xR xL yO yN N fd lim S i dp w) (G : fw_Good FK FM N) (hK : ∀ j, j < N → ∃ c : Nat, c ≤ 13 ∧ FK j = nI c) (hp : p ≤ lim) (kc : FK i = 4) : (∃ r : Int32, r ≠ 0 ∧ (∀ post : Int32 → SX → Prop, post r (xic, xoc, nI N, xhf, nI fd, nI ll, xol, xea, fw_w w, nI i, nI (i + 1), nI sp, nI p, nI b, nI lim, nI us, iK, iA, iB, xM, xO, xS, FK, FA, FB, FM, inp, lst, out, vs, xR, xL) → wpX_doItem post (xic, xoc, nI N, xhf, nI fd, nI ll, xol, xea, fw_w w, nI i, nI (i + 1), nI sp, nI p, nI b, nI lim, nI us, iK, iA, iB, xM, xO, xS, FK, FA, FB, FM, inp, lst, out, vs, xR, xL) (nI 4) (FA i) (FB i)) ∧ (∀ post : Int32 → SY → Prop, post r (yic, nI N, nI fd, nI ll, ymd, ysa, ytk, nI dp, nI p, nI b, nI sp, nI us, nI (i + 1), yra, fw_r w, iK, iA, iB, FK, FA, FB, inp, lst, out, vs, yO, yN, yS, yT) → wY_item_113 post (nI i) (nI 4) yic (nI N) (nI fd) (nI ll) ymd ysa ytk (nI dp) (nI p) (nI b) (nI sp) (nI us) (nI (i + 1)) yra (fw_r w) iK iA iB FK FA FB inp lst out vs yO yN yS yT)) ∨ (∃ (i' lim' S' dp' : Nat) (xR' xL' yO' yN' : Nat → Int32), i < i' ∧ i' ≤ N ∧ S' ≤ S + 32 ∧ p ≤ lim' ∧ fw_R FK xR' xL' yO' yN' (fw_base w fd) lim' S' (fw_st FK i') ∧ dp' = (fw_st FK i').length ∧ (∀ post : Int32 → SX → Prop, post 0 (xic, xoc, nI N, xhf, nI fd, nI ll, xol, xea, fw_w w, nI i, nI i', nI sp, nI p, nI b, nI lim', nI us, iK, iA, iB, xM, xO, xS, FK, FA, FB, FM, inp, lst, out, vs, xR', xL') → wpX_doItem post (xic, xoc, nI N, xhf, nI fd, nI ll, xol, xea, fw_w w, nI i, nI (i + 1), nI sp, nI p, nI b, nI lim, nI us, iK, iA, iB, xM, xO, xS, FK, FA, FB, FM, inp, lst, out, vs, xR, xL) (nI 4) (FA i) (FB i)) ∧ (∀ post : Int32 → SY → Prop, post 0 (yic, nI N, nI fd, nI ll, ymd, ysa, ytk, nI dp', nI p, nI b, nI sp, nI us, nI i', yra, fw_r w, iK, iA, iB, FK, FA, FB, inp, lst, out, vs, yO', yN', yS, yT) → wY_item_113 post (nI i) (nI 4) yic (nI N) (nI fd) (nI ll) ymd ysa ytk (nI dp) (nI p) (nI b) (nI sp) (nI us) (nI (i + 1)) yra (fw_r w) iK iA iB FK FA FB inp lst out vs yO yN yS yT)) := by
  obtain ⟨hi, hlim, ci, vi⟩ := rE_i E
  obtain ⟨v, hv, ev, vv, cv⟩ := rE_v (FB i)
  have ev' : FB (nI i).toNatClampNeg &&& 7 = nI v := by rw [ci]; exact ev
  obtain ⟨W, hN, hiN, hfd, R, hd, _⟩ := E
  have hop : fw_Op FK i := Or.inl kc
  have hm := fw_mem_lt W i (by omega)
  have hd4 := (W i hiN).1 hop
  have evs : vs (nI v).toNatClampNeg = vs v := by rw [cv]
  have HY : ∀ post : Int32 → SY → Prop, ((fp_in (vs v) 0 32 = 0 → post 4 (yic, nI N, nI fd, nI ll, ymd, ysa, ytk, nI dp, nI p, nI b, nI sp, nI us, nI (i + 1), yra, fw_r w, iK, iA, iB, FK, FA, FB, inp, lst, out, vs, yO, yN, yS, yT)) ∧ (¬ fp_in (vs v) 0 32 = 0 → wY_begin_24 (fun r u => match u with | (yic, ysz, yfd, yls, ymd, ysa, ytk, ydp, yps, ybi, ysp, yus, ynx, yra, yrd, yK, yA, yB, zK, zA, zB, yin, ylst, yout, yvs, yO, yN, yS, yT) => post r (yic, ysz, yfd, yls, ymd, ysa, ytk, ydp, yps, ybi, ysp, yus, ynx, yra, yrd, yK, yA, yB, zK, zA, zB, yin, ylst, yout, yvs, yO, yN, yS, yT)) (nI i) (nI 4) (vs v) yic (nI N) (nI fd) (nI ll) ymd ysa ytk (nI dp) (nI p) (nI b) (nI sp) (nI us) (nI (i + 1)) yra (fw_r w) iK iA iB FK FA FB inp lst out vs yO yN yS yT)) → wY_item_113 post (nI i) (nI 4) yic (nI N) (nI fd) (nI ll) ymd ysa ytk (nI dp) (nI p) (nI b) (nI sp) (nI us) (nI (i + 1)) yra (fw_r w) iK iA iB FK FA FB inp lst out vs yO yN yS yT := by
    intro post H
    exact ⟨vi, nm_r ev' (br_t (by decide) (br_f (by decide) (br_f (by decide) ⟨vv, nm_r evs (br_t (by decide) (fp_w H))⟩)))⟩
  have HX : ∀ post : Int32 → SX → Prop, wpX_enterRepeat (fun r u => match u with | (xic, xoc, xfc, xhf, xil, xll, xol, xea, xwr, xcu, xfo, xsp, xpo, xbl, xli, xvu, iK, iA, iB, xM, xO, xS, FK, FA, FB, FM, inp, lst, out, vs, xR, xL) => post r (xic, xoc, xfc, xhf, xil, xll, xol, xea, xwr, xcu, xfo, xsp, xpo, xbl, xli, xvu, iK, iA, iB, xM, xO, xS, FK, FA, FB, FM, inp, lst, out, vs, xR, xL)) (xic, xoc, nI N, xhf, nI fd, nI ll, xol, xea, fw_w w, nI i, nI (i + 1), nI sp, nI p, nI b, nI lim, nI us, iK, iA, iB, xM, xO, xS, FK, FA, FB, FM, inp, lst, out, vs, xR, xL) (vs v) → wpX_doItem post (xic, xoc, nI N, xhf, nI fd, nI ll, xol, xea, fw_w w, nI i, nI (i + 1), nI sp, nI p, nI b, nI lim, nI us, iK, iA, iB, xM, xO, xS, FK, FA, FB, FM, inp, lst, out, vs, xR, xL) (nI 4) (FA i) (FB i) := by
    intro post H
    refine nm_r ev (br_f (by decide) (br_f (by decide) (br_f (by decide) (br_f (by decide) (br_f (by decide) (br_f (by decide) (br_t (by decide) (⟨vv, ?_⟩))))))))
    rw [evs]
    exact H
  by_cases c0 : vs v < 0
  · have e : fp_in (vs v) 0 32 = 0 := by unfold fp_in; rw [if_pos c0]
    exact Or.inl ⟨4, by decide, fun post H => HX _ (br_t c0 H), fun post H => HY _ (br_t e H)⟩
  · by_cases c32 : vs v ≤ 32
    · obtain ⟨x, hx, ex⟩ := nI_of2 (n := 32) (by decide) c0 c32
      have c32' : ¬ 32 < vs v := Int32.not_lt.mpr c32
      have e : ¬ fp_in (vs v) 0 32 = 0 := by unfold fp_in; rw [if_neg c0, if_neg c32']; decide
      rw [ex] at HX HY e c0 c32
      by_cases hx0 : x = 0
      · subst hx0
        obtain ⟨t, e', t1, t2, t3, t4, t5, K⟩ := ry_eo W hN G.2.1 hK (N - (i + 1)) i i 0 [] (fw_st FK i) (by omega) (fw_st_op hop) (yic := yic) (ysz := nI N) (yfd := nI fd) (yls := nI ll) (ymd := ymd) (ysa := ysa) (ytk := ytk) (ydp := nI dp) (yps := nI p) (ybi := nI b) (ysp := nI sp) (yus := nI us) (ynx := nI (i + 1)) (yra := yra) (yrd := fw_r w) (iK := iK) (iA := iA) (iB := iB) (FA := FA) (FB := FB) (inp := inp) (lst := lst) (out := out) (vs := vs) (yO := yO) (yN := yN) (yS := yS) (yT := yT)
        obtain ⟨m1, m2, m3⟩ := G.2.2 t t2 t3 i e' _ t4
        have h3 := (fw_hd W t (by omega) i e' _ t4).2.2.1
        have he : e' = 0 := by
          rcases h3 with h3 | h3
          · exact h3
          · exact absurd (kc.symm.trans h3.2.2.2.1) (by decide)
        have em : FM (nI i).toNatClampNeg + 1 = nI (t + 1) := by rw [ci, m2 he]; exact nI_1 t
        have hst : fw_st FK (t + 1) = fw_st FK i := fw_st_en t3 t4
        refine Or.inr ⟨t + 1, lim, S, dp, upd xR i (nI 0), xL, yO, yN, by omega, by omega, by omega, hp, by rw [hst]; exact fw_R_0 _ R hm, by rw [hst]; exact hd, fun post H => HX _ (br_f c0 (br_t c32 ⟨vi, nm_r (by rw [ci]) (br_t rfl ⟨vi, nm_r em H⟩)⟩)), fun post H => HY _ (br_f e (br_f (by decide) (br_f (by decide) (br_t (by decide) (br_t rfl ⟨N - (i + 1) + 1, K _ (nm_r (nI_1 t) H)⟩)))))⟩
      · have x0 : ¬ nI x = 0 := nI_ne0 (by omega) (by omega)
        have vd : vp_in (nI dp) 5 := vp_in_nI (by omega) (by omega)
        have cd : (nI dp).toNatClampNeg = dp := nI_clamp (by omega)
        have hst := fw_st_op hop
        refine Or.inr ⟨i + 1, lim, S + x, dp + 1, upd xR i (nI x), xL, upd yO dp (nI i), upd yN dp (nI x), by omega, by omega, by omega, hp, ?_, by rw [hst, List.length_cons, hd], fun post H => HX _ (br_f c0 (br_t c32 ⟨vi, nm_r (by rw [ci]) (br_f x0 H)⟩)), fun post H => HY _ (br_f e (br_f (by decide) (br_f (by decide) (br_t (by decide) (br_f x0 ⟨vd, nm_r (by rw [cd]) (nm_r (nI_1 dp) (br_f (by decide) ⟨vd, nm_r (by rw [cd]) (br_f (by decide) H)⟩))⟩)))))⟩
        rw [hst, hd]
        exact fw_R_p4 R hm kc (by omega) hx
    · have c32' : 32 < vs v := Int32.not_le.mp c32
      have e : fp_in (vs v) 0 32 = 0 := by unfold fp_in; rw [if_neg c0, if_pos c32']
      exact Or.inl ⟨4, by decide, fun post H => HX _ (br_f c0 (br_f c32 H)), fun post H => HY _ (br_t e H)⟩
theorem rs_6 (E : fr_E FK xR xL yO yN N fd lim S i dp w) (hp : p ≤ lim) (kc : FK i = 6) : (∃ r : Int32, r ≠ 0 ∧ (∀ post : Int32 → SX → Prop, post r (xic, xoc, nI N, xhf, nI fd, nI ll, xol, xea, fw_w w, nI i, nI (i + 1), nI sp, nI p, nI b, nI lim, nI us, iK, iA, iB, xM, xO, xS, FK, FA, FB, FM, inp, lst, out, vs, xR, xL) → wpX_doItem post (xic, xoc, nI N, xhf, nI fd, nI ll, xol, xea, fw_w w, nI i, nI (i + 1), nI sp, nI p, nI b, nI lim, nI us, iK, iA, iB, xM, xO, xS, FK, FA, FB, FM, inp, lst, out, vs, xR, xL) (nI 6) (FA i) (FB i)) ∧ (∀ post : Int32 → SY → Prop, post r (yic, nI N, nI fd, nI ll, ymd, ysa, ytk, nI dp, nI p, nI b, nI sp, nI us, nI (i + 1), yra, fw_r w, iK, iA, iB, FK, FA, FB, inp, lst, out, vs, yO, yN, yS, yT) → wY_item_113 post (nI i) (nI 6) yic (nI N) (nI fd) (nI ll) ymd ysa ytk (nI dp) (nI p) (nI b) (nI sp) (nI us) (nI (i + 1)) yra (fw_r w) iK iA iB FK FA FB inp lst out vs yO yN yS yT)) ∨ (∃ (i' lim' S' dp' : Nat) (xR' xL' yO' yN' : Nat → Int32), i < i' ∧ i' ≤ N ∧ S' ≤ S + 32 ∧ p ≤ lim' ∧ fw_R FK xR' xL' yO' yN' (fw_base w fd) lim' S' (fw_st FK i') ∧ dp' = (fw_st FK i').length ∧ (∀ post : Int32 → SX → Prop, post 0 (xic, xoc, nI N, xhf, nI fd, nI ll, xol, xea, fw_w w, nI i, nI i', nI sp, nI p, nI b, nI lim', nI us, iK, iA, iB, xM, xO, xS, FK, FA, FB, FM, inp, lst, out, vs, xR', xL') → wpX_doItem post (xic, xoc, nI N, xhf, nI fd, nI ll, xol, xea, fw_w w, nI i, nI (i + 1), nI sp, nI p, nI b, nI lim, nI us, iK, iA, iB, xM, xO, xS, FK, FA, FB, FM, inp, lst, out, vs, xR, xL) (nI 6) (FA i) (FB i)) ∧ (∀ post : Int32 → SY → Prop, post 0 (yic, nI N, nI fd, nI ll, ymd, ysa, ytk, nI dp', nI p, nI b, nI sp, nI us, nI i', yra, fw_r w, iK, iA, iB, FK, FA, FB, inp, lst, out, vs, yO', yN', yS, yT) → wY_item_113 post (nI i) (nI 6) yic (nI N) (nI fd) (nI ll) ymd ysa ytk (nI dp) (nI p) (nI b) (nI sp) (nI us) (nI (i + 1)) yra (fw_r w) iK iA iB FK FA FB inp lst out vs yO yN yS yT)) := by
  have E0 := E
  obtain ⟨hi, hlim, ci, vi⟩ := rE_i E
  obtain ⟨v, hv, ev, vv, cv⟩ := rE_v (FB i)
  have ev' : FB (nI i).toNatClampNeg &&& 7 = nI v := by rw [ci]; exact ev
  obtain ⟨W, hN, hiN, hfd, R, hd, _⟩ := E
  have hop : fw_Op FK i := Or.inr (Or.inr kc)
  have hm := fw_mem_lt W i (by omega)
  have hd4 := (W i hiN).1 hop
  have evs : vs (nI v).toNatClampNeg = vs v := by rw [cv]
  have HY : ∀ post : Int32 → SY → Prop, wY_begin_24 (fun r u => match u with | (yic, ysz, yfd, yls, ymd, ysa, ytk, ydp, yps, ybi, ysp, yus, ynx, yra, yrd, yK, yA, yB, zK, zA, zB, yin, ylst, yout, yvs, yO, yN, yS, yT) => post r (yic, ysz, yfd, yls, ymd, ysa, ytk, ydp, yps, ybi, ysp, yus, ynx, yra, yrd, yK, yA, yB, zK, zA, zB, yin, ylst, yout, yvs, yO, yN, yS, yT)) (nI i) (nI 6) (vs v) yic (nI N) (nI fd) (nI ll) ymd ysa ytk (nI dp) (nI p) (nI b) (nI sp) (nI us) (nI (i + 1)) yra (fw_r w) iK iA iB FK FA FB inp lst out vs yO yN yS yT → wY_item_113 post (nI i) (nI 6) yic (nI N) (nI fd) (nI ll) ymd ysa ytk (nI dp) (nI p) (nI b) (nI sp) (nI us) (nI (i + 1)) yra (fw_r w) iK iA iB FK FA FB inp lst out vs yO yN yS yT := by
    intro post H
    exact ⟨vi, nm_r ev' (br_t (by decide) (br_f (by decide) (br_f (by decide) ⟨vv, nm_r evs (br_f (by decide) H)⟩)))⟩
  have HX : ∀ post : Int32 → SX → Prop, wpX_enterBlock (fun r u => match u with | (xic, xoc, xfc, xhf, xil, xll, xol, xea, xwr, xcu, xfo, xsp, xpo, xbl, xli, xvu, iK, iA, iB, xM, xO, xS, FK, FA, FB, FM, inp, lst, out, vs, xR, xL) => post r (xic, xoc, xfc, xhf, xil, xll, xol, xea, xwr, xcu, xfo, xsp, xpo, xbl, xli, xvu, iK, iA, iB, xM, xO, xS, FK, FA, FB, FM, inp, lst, out, vs, xR, xL)) (xic, xoc, nI N, xhf, nI fd, nI ll, xol, xea, fw_w w, nI i, nI (i + 1), nI sp, nI p, nI b, nI lim, nI us, iK, iA, iB, xM, xO, xS, FK, FA, FB, FM, inp, lst, out, vs, xR, xL) (vs v) → wpX_doItem post (xic, xoc, nI N, xhf, nI fd, nI ll, xol, xea, fw_w w, nI i, nI (i + 1), nI sp, nI p, nI b, nI lim, nI us, iK, iA, iB, xM, xO, xS, FK, FA, FB, FM, inp, lst, out, vs, xR, xL) (nI 6) (FA i) (FB i) := by
    intro post H
    refine nm_r ev (br_f (by decide) (br_f (by decide) (br_f (by decide) (br_f (by decide) (br_f (by decide) (br_f (by decide) (br_f (by decide) (br_f (by decide) (br_t (by decide) (⟨vv, ?_⟩))))))))))
    rw [evs]
    exact H
  by_cases c0 : 0 ≤ vs v
  · obtain ⟨x, hx, ex⟩ := nI_of (x := vs v) (Int32.not_lt.mpr c0)
    rw [ex] at HX HY c0
    have esub : nI lim - nI p = nI (lim - p) := pk_sub hp
    by_cases h : p + x ≤ lim
    · have cX : nI x ≤ nI lim - nI p := by rw [esub]; exact nI_le (by omega) (by omega)
      have vd : vp_in (nI dp) 5 := vp_in_nI (by omega) (by omega)
      have cd : (nI dp).toNatClampNeg = dp := nI_clamp (by omega)
      have hst := fw_st_op hop
      refine Or.inr ⟨i + 1, p + x, S, dp + 1, xR, upd xL i (nI lim), upd yO dp (nI i), upd yN dp (nI (p + x)), by omega, by omega, by omega, by omega, ?_, by rw [hst, List.length_cons, hd], fun post H => HX _ (br_t c0 (br_t cX ⟨vi, nm_r (by rw [ci]) (nm_r (nI_add p x) H)⟩)), fun post H => HY _ (br_t (by decide) (br_t c0 (br_t (by decide) (rE_1 E0 h (br_f (by decide) (br_f (by decide) ⟨vd, nm_r (by rw [cd]) (nm_r (nI_1 dp) (br_t (by decide) ⟨vd, nm_r (by rw [cd, nI_add]) (br_f (by decide) H)⟩))⟩))))))⟩
      rw [hst, hd]
      exact fw_R_p6 R hm kc h
    · have cX : ¬ nI x ≤ nI lim - nI p := by rw [esub]; exact nI_ge (by omega) (by omega)
      exact Or.inl ⟨3, by decide, fun post H => HX _ (br_t c0 (br_f cX H)), fun post H => HY _ (br_t (by decide) (br_t c0 (br_t (by decide) (rE_0 E0 hp (by omega) (by omega) (br_t rfl H)))))⟩
  · exact Or.inl ⟨4, by decide, fun post H => HX _ (br_f c0 H), fun post H => HY _ (br_t (by decide) (br_f c0 H))⟩
/-- the END of a WHEN, on the side that comes to it after a way not gone -/
theorem rs_5e {post : Int32 → SY → Prop} {t : Nat} {m : Int32} (ht : t < 40) (hi : i < 40) (hd4 : dp < 4) (kc : FK i = 5) (kt : FK t = 13) (H : post 0 (yic, nI N, nI fd, nI ll, ymd, ysa, ytk, nI dp, nI p, nI b, nI sp, nI us, nI (t + 1), nI p, fw_r w, iK, iA, iB, FK, FA, FB, inp, lst, out, vs, upd yO dp (nI i), upd yN dp m, yS, yT)) : wpY_item post (yic, nI N, nI fd, nI ll, ymd, ysa, ytk, nI (dp + 1), nI p, nI b, nI sp, nI us, nI (t + 1), nI p, fw_r w, iK, iA, iB, FK, FA, FB, inp, lst, out, vs, upd yO dp (nI i), upd yN dp m, yS, yT) (nI t) := by
  have ct : FK (nI t).toNatClampNeg = 13 := by rw [nI_clamp (by omega)]; exact kt
  have em : nI (dp + 1) - 1 = nI dp := nI_pred dp
  have vd : vp_in (nI dp) 5 := vp_in_nI (by omega) (by omega)
  have cd : (nI dp).toNatClampNeg = dp := nI_clamp (by omega)
  have eo : upd yO dp (nI i) (nI dp).toNatClampNeg = nI i := by rw [cd, pk_us]
  have vo : vp_in (upd yO dp (nI i) (nI dp).toNatClampNeg) 40 := by rw [eo]; exact vp_in_nI hi (by omega)
  have ek : FK (upd yO dp (nI i) (nI dp).toNatClampNeg).toNatClampNeg = 5 := by rw [eo, nI_clamp (by omega)]; exact kc
  exact ⟨vp_in_nI ht (by omega), nm_r ct (br_t rfl (nm_r em ⟨vd, vo, nm_r ek (br_f (by decide) (br_f (by decide) (nm_r em H)))⟩))⟩
theorem rs_5 (E : fr_E FK xR xL yO yN N fd lim S i dp w) (G : fw_Good FK FM N) (hK : ∀ j, j < N → ∃ c : Nat, c ≤ 13 ∧ FK j = nI c) (hp : p ≤ lim) (kc : FK i = 5) : ((∃ r : Int32, r ≠ 0 ∧ (∀ post : Int32 → SX → Prop, post r (xic, xoc, nI N, xhf, nI fd, nI ll, xol, xea, fw_w w, nI i, nI (i + 1), nI sp, nI p, nI b, nI lim, nI us, iK, iA, iB, xM, xO, xS, FK, FA, FB, FM, inp, lst, out, vs, xR, xL) → wpX_doItem post (xic, xoc, nI N, xhf, nI fd, nI ll, xol, xea, fw_w w, nI i, nI (i + 1), nI sp, nI p, nI b, nI lim, nI us, iK, iA, iB, xM, xO, xS, FK, FA, FB, FM, inp, lst, out, vs, xR, xL) (nI 5) (FA i) (FB i)) ∧ (∀ post : Int32 → SY → Prop, post r (yic, nI N, nI fd, nI ll, ymd, ysa, ytk, nI dp, nI p, nI b, nI sp, nI us, nI (i + 1), yra, fw_r w, iK, iA, iB, FK, FA, FB, inp, lst, out, vs, yO, yN, yS, yT) → wY_item_113 post (nI i) (nI 5) yic (nI N) (nI fd) (nI ll) ymd ysa ytk (nI dp) (nI p) (nI b) (nI sp) (nI us) (nI (i + 1)) yra (fw_r w) iK iA iB FK FA FB inp lst out vs yO yN yS yT)) ∨ (∃ (i' lim' S' dp' : Nat) (xR' xL' yO' yN' : Nat → Int32), i < i' ∧ i' ≤ N ∧ S' ≤ S + 32 ∧ p ≤ lim' ∧ fw_R FK xR' xL' yO' yN' (fw_base w fd) lim' S' (fw_st FK i') ∧ dp' = (fw_st FK i').length ∧ (∀ post : Int32 → SX → Prop, post 0 (xic, xoc, nI N, xhf, nI fd, nI ll, xol, xea, fw_w w, nI i, nI i', nI sp, nI p, nI b, nI lim', nI us, iK, iA, iB, xM, xO, xS, FK, FA, FB, FM, inp, lst, out, vs, xR', xL') → wpX_doItem post (xic, xoc, nI N, xhf, nI fd, nI ll, xol, xea, fw_w w, nI i, nI (i + 1), nI sp, nI p, nI b, nI lim, nI us, iK, iA, iB, xM, xO, xS, FK, FA, FB, FM, inp, lst, out, vs, xR, xL) (nI 5) (FA i) (FB i)) ∧ (∀ post : Int32 → SY → Prop, post 0 (yic, nI N, nI fd, nI ll, ymd, ysa, ytk, nI dp', nI p, nI b, nI sp, nI us, nI i', yra, fw_r w, iK, iA, iB, FK, FA, FB, inp, lst, out, vs, yO', yN', yS, yT) → wY_item_113 post (nI i) (nI 5) yic (nI N) (nI fd) (nI ll) ymd ysa ytk (nI dp) (nI p) (nI b) (nI sp) (nI us) (nI (i + 1)) yra (fw_r w) iK iA iB FK FA FB inp lst out vs yO yN yS yT))) ∨ (∃ (t : Nat) (m : Int32), i < t ∧ t < N ∧ FK t = 13 ∧ dp < 4 ∧ fw_st FK (t + 1) = fw_st FK i ∧ fw_R FK xR xL (upd yO dp (nI i)) (upd yN dp m) (fw_base w fd) lim S (fw_st FK i) ∧ (∀ post : Int32 → SX → Prop, post 0 (xic, xoc, nI N, xhf, nI fd, nI ll, xol, xea, fw_w w, nI i, nI (t + 1), nI sp, nI p, nI b, nI lim, nI us, iK, iA, iB, xM, xO, xS, FK, FA, FB, FM, inp, lst, out, vs, xR, xL) → wpX_doItem post (xic, xoc, nI N, xhf, nI fd, nI ll, xol, xea, fw_w w, nI i, nI (i + 1), nI sp, nI p, nI b, nI lim, nI us, iK, iA, iB, xM, xO, xS, FK, FA, FB, FM, inp, lst, out, vs, xR, xL) (nI 5) (FA i) (FB i)) ∧ (∀ post : Int32 → SY → Prop, post 0 (yic, nI N, nI fd, nI ll, ymd, ysa, ytk, nI (dp + 1), nI p, nI b, nI sp, nI us, nI t, yra, fw_r w, iK, iA, iB, FK, FA, FB, inp, lst, out, vs, upd yO dp (nI i), upd yN dp m, yS, yT) → wY_item_113 post (nI i) (nI 5) yic (nI N) (nI fd) (nI ll) ymd ysa ytk (nI dp) (nI p) (nI b) (nI sp) (nI us) (nI (i + 1)) yra (fw_r w) iK iA iB FK FA FB inp lst out vs yO yN yS yT)) := by
  obtain ⟨hi, hlim, ci, vi⟩ := rE_i E
  obtain ⟨v, hv, ev, vv, cv⟩ := rE_v (FB i)
  have ev' : FB (nI i).toNatClampNeg &&& 7 = nI v := by rw [ci]; exact ev
  obtain ⟨W, hN, hiN, hfd, R, hd, _⟩ := E
  have hop : fw_Op FK i := Or.inr (Or.inl kc)
  have hm := fw_mem_lt W i (by omega)
  have hd4 := (W i hiN).1 hop
  rw [← hd] at hd4
  have evs : vs (nI v).toNatClampNeg = vs v := by rw [cv]
  have vd : vp_in (nI dp) 5 := vp_in_nI (by omega) (by omega)
  have cd : (nI dp).toNatClampNeg = dp := nI_clamp (by omega)
  have ea : FA (nI i).toNatClampNeg = FA i := by rw [ci]
  have HY : ∀ post : Int32 → SY → Prop, ((vs v = FA i → post 0 (yic, nI N, nI fd, nI ll, ymd, ysa, ytk, nI (dp + 1), nI p, nI b, nI sp, nI us, nI (i + 1), yra, fw_r w, iK, iA, iB, FK, FA, FB, inp, lst, out, vs, upd yO dp (nI i), upd yN dp (vs v), yS, yT)) ∧ (¬ vs v = FA i → wpY_elseOf (fun r_16 => vp_in r_16 40 ∧ ((FK r_16.toNatClampNeg = 12 → ∀ y, y = r_16 + 1 → post 0 (yic, nI N, nI fd, nI ll, ymd, ysa, ytk, nI (dp + 1), nI p, nI b, nI sp, nI us, y, yra, fw_r w, iK, iA, iB, FK, FA, FB, inp, lst, out, vs, upd yO dp (nI i), upd yN dp (vs v), yS, yT)) ∧ (¬ FK r_16.toNatClampNeg = 12 → post 0 (yic, nI N, nI fd, nI ll, ymd, ysa, ytk, nI (dp + 1), nI p, nI b, nI sp, nI us, r_16, yra, fw_r w, iK, iA, iB, FK, FA, FB, inp, lst, out, vs, upd yO dp (nI i), upd yN dp (vs v), yS, yT)))) (yic, nI N, nI fd, nI ll, ymd, ysa, ytk, nI (dp + 1), nI p, nI b, nI sp, nI us, nI (i + 1), yra, fw_r w, iK, iA, iB, FK, FA, FB, inp, lst, out, vs, upd yO dp (nI i), upd yN dp (vs v), yS, yT) (nI i))) → wY_item_113 post (nI i) (nI 5) yic (nI N) (nI fd) (nI ll) ymd ysa ytk (nI dp) (nI p) (nI b) (nI sp) (nI us) (nI (i + 1)) yra (fw_r w) iK iA iB FK FA FB inp lst out vs yO yN yS yT := by
    intro post H
    refine ⟨vi, nm_r ev' (br_t (by decide) (br_f (by decide) (br_f (by decide) ⟨vv, nm_r evs (br_f (by decide) (br_f (by decide) (br_f (by decide) (br_f (by decide) ⟨vd, nm_r (by rw [cd]) (nm_r (nI_1 dp) (br_f (by decide) ⟨vd, nm_r (by rw [cd]) (br_t (by decide) ⟨vi, ?_⟩)⟩))⟩))))⟩)))⟩
    rw [ea]
    exact H
  have HX : ∀ post : Int32 → SX → Prop, ((vs v = FA i → post 0 (xic, xoc, nI N, xhf, nI fd, nI ll, xol, xea, fw_w w, nI i, nI (i + 1), nI sp, nI p, nI b, nI lim, nI us, iK, iA, iB, xM, xO, xS, FK, FA, FB, FM, inp, lst, out, vs, xR, xL)) ∧ (¬ vs v = FA i → ∀ y, y = FM i + 1 → post 0 (xic, xoc, nI N, xhf, nI fd, nI ll, xol, xea, fw_w w, nI i, y, nI sp, nI p, nI b, nI lim, nI us, iK, iA, iB, xM, xO, xS, FK, FA, FB, FM, inp, lst, out, vs, xR, xL))) → wpX_doItem post (xic, xoc, nI N, xhf, nI fd, nI ll, xol, xea, fw_w w, nI i, nI (i + 1), nI sp, nI p, nI b, nI lim, nI us, iK, iA, iB, xM, xO, xS, FK, FA, FB, FM, inp, lst, out, vs, xR, xL) (nI 5) (FA i) (FB i) := by
    intro post H
    refine nm_r ev (br_f (by decide) (br_f (by decide) (br_f (by decide) (br_f (by decide) (br_f (by decide) (br_f (by decide) (br_f (by decide) (br_t (by decide) (⟨vv, ?_⟩)))))))))
    rw [evs, ci]
    exact ⟨fun z => nm_r (nI_1 i) (H.1 z), fun z => ⟨vi, H.2 z⟩⟩
  have hst := fw_st_op hop
  by_cases c : vs v = FA i
  · refine Or.inl (Or.inr ⟨i + 1, lim, S, dp + 1, xR, xL, upd yO dp (nI i), upd yN dp (vs v), by omega, by omega, by omega, hp, ?_, by rw [hst, List.length_cons, hd], fun post H => HX _ (br_t c H), fun post H => HY _ (br_t c H)⟩)
    rw [hst, hd]
    exact fw_R_p5 R hm kc
  · obtain ⟨t, t1, t2, t3, t4, K⟩ := ry_el W hN G.2.1 hK (N - (i + 1)) i i [] (fw_st FK i) (by omega) hst (yic := yic) (ysz := nI N) (yfd := nI fd) (yls := nI ll) (ymd := ymd) (ysa := ysa) (ytk := ytk) (ydp := nI (dp + 1)) (yps := nI p) (ybi := nI b) (ysp := nI sp) (yus := nI us) (ynx := nI (i + 1)) (yra := yra) (yrd := fw_r w) (iK := iK) (iA := iA) (iB := iB) (FA := FA) (FB := FB) (inp := inp) (lst := lst) (out := out) (vs := vs) (yO := upd yO dp (nI i)) (yN := upd yN dp (vs v)) (yS := yS) (yT := yT)
    have vt : vp_in (nI t) 40 := vp_in_nI (by omega) (by omega)
    have ct : (nI t).toNatClampNeg = t := nI_clamp (by omega)
    rcases t3 with t3 | t3
    · obtain ⟨t', g1, g2, g3, g4, g5, g6, g7⟩ := fw_G_el G t2 t3 t4
      have em : FM i + 1 = nI (t + 1) := by rw [g7]; exact nI_1 t
      have hst2 := fw_st_el t3 t4
      refine Or.inl (Or.inr ⟨t + 1, lim, S, dp + 1, xR, xL, upd yO dp (nI i), upd yN dp (vs v), by omega, by omega, by omega, hp, ?_, by rw [hst2, List.length_cons, hd], fun post H => HX _ (br_f c (nm_r em H)), fun post H => HY _ (br_f c ⟨N - (i + 1) + 1, K _ ⟨vt, br_t (by rw [ct]; exact t3) (nm_r (nI_1 t) H)⟩⟩)⟩)
      rw [hst2, hd]
      exact fw_R_p5 R hm kc
    · obtain ⟨m1, m2, m3⟩ := G.2.2 t t2 t3 i 0 _ t4
      have em : FM i + 1 = nI (t + 1) := by rw [m2 rfl]; exact nI_1 t
      have n12 : ¬ FK (nI t).toNatClampNeg = 12 := by rw [ct, t3]; decide
      refine Or.inr ⟨t, vs v, t1, t2, t3, hd4, fw_st_en t3 t4, ?_, fun post H => HX _ (br_f c (nm_r em H)), fun post H => HY _ (br_f c ⟨N - (i + 1) + 1, K _ ⟨vt, br_f n12 H⟩⟩)⟩
      rw [hd]
      exact fw_R_keep R hm (fw_id _ _) (fw_id _ _) (fw_un _ _ _) (fw_un _ _ _)
end
