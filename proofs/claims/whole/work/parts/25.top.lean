/-! parse and write -/
section
variable {xic xoc xfc xhf xil xll xol xea xwr xcu xfo xsp xpo xbl xli xvu yic ysz yfd yls ymd ysa ytk ydp yps ybi ysp yus ynx yra yrd : Int32} {iK iA iB xM xO xS FK FA FB FM inp lst out vs xR xL yO yN yS yT : Nat → Int32}
variable {N fd ll : Nat} {w : Bool}
theorem rq_X {post : SX → Prop} (H : post (xic, xoc, xfc, xhf, xil, xll, xol, xea, xwr, xcu, xfo, xsp, xpo, xbl, xli, xvu, iK, iA, iB, xM, xO, xS, FK, FA, FB, FM, inp, lst, out, fw_cp (fun _ => 0) vs 8, xR, xL)) : ∀ d j : Nat, j + d = 8 → wX_startRun_27 post xic xoc xfc xhf xil xll xol xea xwr xcu xfo xsp xpo xbl xli xvu (d + 1) (nI j) iK iA iB xM xO xS FK FA FB FM inp lst out (fw_cp (fun _ => 0) vs j) xR xL := by
  intro d
  induction d with
  | zero =>
    intro j hj
    have e : j = 8 := by omega
    rw [e]
    exact br_t (by decide) H
  | succ d ih =>
    intro j hj
    have cj : (nI j).toNatClampNeg = j := nI_clamp (by omega)
    exact br_f (nI_ge (b := 8) (by omega) (by decide)) ⟨vp_in_nI (by omega) (by omega), nm_r (by rw [cj]; exact fw_cp_s (fun _ => 0) vs j) (nm_r (nI_1 j) (ih (j + 1) (by omega)))⟩
theorem rq_Y {post : Int32 → SY → Prop} (H : ∃ n50 : Nat, wY_run_50 post n50 0 0 yic ysz yfd yls ymd ysa ytk 0 0 0 0 0 ynx yra yrd iK iA iB FK FA FB inp lst out (fw_cp (fun _ => 0) vs 8) yO yN yS yT) : ∀ d j : Nat, j + d = 8 → wY_run_2 post yic ysz yfd yls ymd ysa ytk ydp yps ybi ysp yus ynx yra yrd (d + 1) (nI j) iK iA iB FK FA FB inp lst out (fw_cp (fun _ => 0) vs j) yO yN yS yT := by
  intro d
  induction d with
  | zero =>
    intro j hj
    have e : j = 8 := by omega
    rw [e]
    exact br_t (by decide) H
  | succ d ih =>
    intro j hj
    have cj : (nI j).toNatClampNeg = j := nI_clamp (by omega)
    exact br_f (nI_ge (b := 8) (by omega) (by decide)) ⟨vp_in_nI (by omega) (by omega), nm_r (by rw [cj]; exact fw_cp_s (fun _ => 0) vs j) (nm_r (nI_1 j) (ih (j + 1) (by omega)))⟩
theorem rq_run (hF : fw_Fmt FK FA FM N) (hfd : fd ≤ 64) (hll : ll ≤ 40) : ∃ (r ea cu fo st li vu yd yp yb ys yu yn yr : Int32) (L P B : Nat) (lst' out' vs' xR' xL' yO' yN' : Nat → Int32), L ≤ 40 ∧ P ≤ 64 ∧ B ≤ 7 ∧ (0 < B → 0 < P) ∧ (w = true → yp = nI P ∧ yb = nI B) ∧ (∀ post : Int32 → SX → Prop, post r (xic, xoc, nI N, xhf, nI fd, nI L, xol, ea, fw_w w, cu, fo, st, nI P, nI B, li, vu, iK, iA, iB, xM, xO, xS, FK, FA, FB, FM, inp, lst', out', vs', xR', xL') → wpX_runFormat post (xic, xoc, nI N, xhf, nI fd, nI ll, xol, xea, fw_w w, xcu, xfo, xsp, xpo, xbl, nI (fw_base w fd), xvu, iK, iA, iB, xM, xO, xS, FK, FA, FB, FM, inp, lst, out, vs, xR, xL)) ∧ (∀ post : Int32 → SY → Prop, post r (yic, nI N, nI fd, nI L, ymd, ea, nI P, yd, yp, yb, ys, yu, yn, yr, fw_r w, iK, iA, iB, FK, FA, FB, inp, lst', out', vs', yO', yN', yS, yT) → wpY_run post (yic, nI N, nI fd, nI ll, ymd, ysa, ytk, ydp, yps, ybi, ysp, yus, ynx, yra, fw_r w, iK, iA, iB, FK, FA, FB, inp, lst, out, vs, yO, yN, yS, yT)) := by
  obtain ⟨hN, G, hIt⟩ := hF
  obtain ⟨r, ea, cu, fo, st, li, vu, yd, yp, yb, ys, yu, yn, yr, L, P, B, lst', out', vs', xR2, xL2, yO2, yN2, q1, q2, q3, q4, q5, KX, nY, KY⟩ := rr_main (w := w) hN hfd G hIt 541240 0 0 0 0 (fw_base w fd) 0 0 ll 0 xfo ynx yra lst out (fw_cp (fun _ => 0) vs 8) xR xL yO yN (by rw [fw_V_0]; omega) (by omega) (by omega) (by omega) (by omega) (fun z => by omega) (by omega) hll ⟨rfl, rfl⟩ rfl (xic := xic) (xoc := xoc) (xhf := xhf) (xol := xol) (xea := xea) (iK := iK) (iA := iA) (iB := iB) (xM := xM) (xO := xO) (xS := xS) (FB := FB) (inp := inp) (yic := yic) (ymd := ymd) (ysa := ysa) (ytk := ytk) (yS := yS) (yT := yT)
  refine ⟨r, ea, cu, fo, st, li, vu, yd, yp, yb, ys, yu, yn, yr, L, P, B, lst', out', vs', xR2, xL2, yO2, yN2, q1, q2, q3, q4, q5, fun post H => ?_, fun post H => ?_⟩
  · have K := rq_X (post := fun u => match u with | (xic, xoc, xfc, xhf, xil, xll, xol, xea, xwr, xcu, xfo, xsp, xpo, xbl, xli, xvu, iK, iA, iB, xM, xO, xS, FK, FA, FB, FM, inp, lst, out, vs, xR, xL) => ∃ n8 : Nat, wX_runFormat_8 post n8 0 0 xic xoc xfc xhf xil xll xol xea xwr xcu xfo xsp xpo xbl xli xvu iK iA iB xM xO xS FK FA FB FM inp lst out vs xR xL) (vs := vs) (iK := iK) (iA := iA) (iB := iB) (xM := xM) (xO := xO) (xS := xS) (FK := FK) (FA := FA) (FB := FB) (FM := FM) (inp := inp) (lst := lst) (out := out) (xR := xR) (xL := xL) (xic := xic) (xoc := xoc) (xfc := nI N) (xhf := xhf) (xil := nI fd) (xll := nI ll) (xol := xol) (xea := xea) (xwr := fw_w w) (xcu := 0) (xfo := xfo) (xsp := 0) (xpo := 0) (xbl := 0) (xli := nI (fw_base w fd)) (xvu := 0) ⟨541241, KX post 541241 0 (by rw [fw_V_0]; omega) (by rw [fw_V_0]; omega) H⟩ 8 0 (by omega)
    rw [fw_cp_0] at K
    unfold wpX_runFormat
    exact ⟨9, K⟩
  · have K := rq_Y (post := post) (vs := vs) (iK := iK) (iA := iA) (iB := iB) (FK := FK) (FA := FA) (FB := FB) (inp := inp) (lst := lst) (out := out) (yO := yO) (yN := yN) (yS := yS) (yT := yT) (yic := yic) (ysz := nI N) (yfd := nI fd) (yls := nI ll) (ymd := ymd) (ysa := ysa) (ytk := ytk) (ydp := ydp) (yps := yps) (ybi := ybi) (ysp := ysp) (yus := yus) (ynx := ynx) (yra := yra) (yrd := fw_r w) ⟨nY, KY post H⟩ 8 0 (by omega)
    rw [fw_cp_0] at K
    exact ⟨9, K⟩
end
theorem fw_m1 : ¬ (0 : Int32) ≤ -1 := by decide
theorem i_vc_parse {k : Nat} {u : SX} {v : SY} (I : i_Rel k u v) (hk : k + 4 ≤ 2048) : wpX_parse (fun r u' => wpY_parse (fun r' v' => r' = r ∧ i_Rel (k + 4) u' v') v) u := by
  have J := I
  obtain ⟨xic, xoc, xfc, xhf, xil, xll, xol, xea, xwr, xcu, xfo, xsp, xpo, xbl, xli, xvu, iK, iA, iB, xM, xO, xS, FK, FA, FB, FM, inp, lst, out, vs, xR, xL⟩ := u
  obtain ⟨yic, ysz, yfd, yls, ymd, ysa, ytk, ydp, yps, ybi, ysp, yus, ynx, yra, yrd, yK, yA, yB, zK, zA, zB, yin, ylst, yout, yvs, yO, yN, yS, yT⟩ := v
  obtain ⟨n, fd, ll, md, rfl, rfl, rfl, rfl, rfl, rfl, rfl, rfl, rfl, rfl, rfl, rfl, rfl, rfl, rfl, rfl, rfl, rfl, rfl, rfl, h1, h2, h3, h4, h5, h6⟩ := I
  rcases h6 with ⟨rfl, rfl⟩ | ⟨rfl, N, rfl, rfl, hF⟩
  · exact br_t rfl (br_f fw_m1 ⟨rfl, J⟩)
  · have hN := hF.1
    obtain ⟨r, ea, cu, fo, st, li, vu, yd, yp, yb, ys, yu, yn, yr, L, P, B, lst', out', vs', xR2, xL2, yO2, yN2, q1, q2, q3, q4, q5, KX, KY⟩ := rq_run (w := false) (ll := 0) hF h2 (by omega) (xic := nI n) (xoc := xoc) (xhf := 1) (xol := nI md) (xea := xea) (xcu := xcu) (xfo := xfo) (xsp := xsp) (xpo := xpo) (xbl := xbl) (xvu := xvu) (iK := iK) (iA := iA) (iB := iB) (xM := xM) (xO := xO) (xS := xS) (FB := FB) (inp := inp) (lst := lst) (out := out) (vs := vs) (xR := xR) (xL := xL) (yic := nI n) (ymd := nI md) (ysa := xea) (ytk := xpo) (ydp := ydp) (yps := yps) (ybi := ybi) (ysp := ysp) (yus := yus) (ynx := ynx) (yra := yra) (yO := yO) (yN := yN) (yS := yS) (yT := yT)
    refine br_f (by decide) (KX _ (br_t (nI_pos' (by omega)) (KY _ ?_)))
    exact ⟨rfl, n, 0, L, md, rfl, rfl, rfl, rfl, rfl, rfl, rfl, rfl, rfl, rfl, rfl, rfl, rfl, rfl, rfl, rfl, rfl, rfl, rfl, rfl, h1, by omega, q1, h4, h5, Or.inr ⟨rfl, N, rfl, rfl, hF⟩⟩
theorem i_vc_write {k : Nat} {u : SX} {v : SY} (I : i_Rel k u v) (hk : k + 4 ≤ 2048) : wpX_write (fun r u' => wpY_write (fun r' v' => r' = r ∧ i_Rel (k + 4) u' v') v) u := by
  have J := I
  obtain ⟨xic, xoc, xfc, xhf, xil, xll, xol, xea, xwr, xcu, xfo, xsp, xpo, xbl, xli, xvu, iK, iA, iB, xM, xO, xS, FK, FA, FB, FM, inp, lst, out, vs, xR, xL⟩ := u
  obtain ⟨yic, ysz, yfd, yls, ymd, ysa, ytk, ydp, yps, ybi, ysp, yus, ynx, yra, yrd, yK, yA, yB, zK, zA, zB, yin, ylst, yout, yvs, yO, yN, yS, yT⟩ := v
  obtain ⟨n, fd, ll, md, rfl, rfl, rfl, rfl, rfl, rfl, rfl, rfl, rfl, rfl, rfl, rfl, rfl, rfl, rfl, rfl, rfl, rfl, rfl, rfl, h1, h2, h3, h4, h5, h6⟩ := I
  rcases h6 with ⟨rfl, rfl⟩ | ⟨rfl, N, rfl, rfl, hF⟩
  · exact br_t rfl (br_f fw_m1 ⟨rfl, J⟩)
  · have hN := hF.1
    obtain ⟨r, ea, cu, fo, st, li, vu, yd, yp, yb, ys, yu, yn, yr, L, P, B, lst', out', vs', xR2, xL2, yO2, yN2, q1, q2, q3, q4, q5, KX, KY⟩ := rq_run (w := true) (ll := ll) hF h2 h3 (xic := nI n) (xoc := xoc) (xhf := 1) (xol := nI md) (xea := xea) (xcu := xcu) (xfo := xfo) (xsp := xsp) (xpo := xpo) (xbl := xbl) (xvu := xvu) (iK := iK) (iA := iA) (iB := iB) (xM := xM) (xO := xO) (xS := xS) (FB := FB) (inp := inp) (lst := lst) (out := out) (vs := vs) (xR := xR) (xL := xL) (yic := nI n) (ymd := nI md) (ysa := xea) (ytk := xpo) (ydp := ydp) (yps := yps) (ybi := ybi) (ysp := ysp) (yus := yus) (ynx := ynx) (yra := yra) (yO := yO) (yN := yN) (yS := yS) (yT := yT)
    obtain ⟨rfl, rfl⟩ := q5 rfl
    by_cases hB : B = 0
    · subst hB
      refine br_f (by decide) (KX _ (br_t (by decide) (br_t (nI_pos' (by omega)) (KY _ (br_t (by decide) ?_)))))
      exact ⟨rfl, n, fd, L, P, rfl, rfl, rfl, rfl, rfl, rfl, rfl, rfl, rfl, rfl, rfl, rfl, rfl, rfl, rfl, rfl, rfl, rfl, rfl, rfl, h1, h2, q1, q2, h5, Or.inr ⟨rfl, N, rfl, rfl, hF⟩⟩
    · have c : ¬ nI B ≤ 0 := nI_nle (by omega) (by omega)
      have hP := q4 (by omega)
      have e : nI P - 1 = nI (P - 1) := pk_sub (b := 1) (by omega)
      refine br_f (by decide) (KX _ (br_f c (nm_r e (br_t (nI_pos' (by omega)) (KY _ (br_f c (nm_r e ?_)))))))
      exact ⟨rfl, n, fd, L, P - 1, rfl, rfl, rfl, rfl, rfl, rfl, rfl, rfl, rfl, rfl, rfl, rfl, rfl, rfl, rfl, rfl, rfl, rfl, rfl, rfl, h1, h2, q1, by omega, h5, Or.inr ⟨rfl, N, rfl, rfl, hF⟩⟩
