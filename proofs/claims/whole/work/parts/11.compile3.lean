/-! compile: the copy, and the whole -/
section
variable {xic xoc xfc xhf xil xll xol xea xwr xcu xfo xsp xpo xbl xli xvu yic ysz yfd yls ymd ysa ytk ydp yps ybi ysp yus ynx yra yrd : Int32} {iK iA iB xM xO xS FK FA FB FM inp lst out vs xR xL yO yN yS yT : Nat → Int32}
theorem fd_X {n : Nat} (hn : n ≤ 40) {post : SX → Prop} (hp : post (nI n, xoc, nI n, 1, xil, xll, xol, xea, xwr, xcu, xfo, xsp, xpo, xbl, xli, xvu, iK, iA, iB, xM, xO, xS, fw_cp iK FK n, fw_cp iA FA n, fw_cp iB FB n, fw_cp xM FM n, inp, lst, out, vs, xR, xL)) : ∀ d i : Nat, i + d = n → wX_adoptItems_2 post (nI n) xoc xfc xhf xil xll xol xea xwr xcu xfo xsp xpo xbl xli xvu (d + 1) (nI i) iK iA iB xM xO xS (fw_cp iK FK i) (fw_cp iA FA i) (fw_cp iB FB i) (fw_cp xM FM i) inp lst out vs xR xL := by
  intro d
  induction d with
  | zero =>
    intro i hi
    have e : i = n := by omega
    rw [e]
    exact br_t (nI_le (by omega) (by omega)) hp
  | succ d ih =>
    intro i hi
    have c1 : ¬ nI n ≤ nI i := nI_ge (by omega) (by omega)
    have vi : vp_in (nI i) 40 := vp_in_nI (by omega) (by omega)
    have ci : (nI i).toNatClampNeg = i := nI_clamp (by omega)
    exact br_f c1 ⟨vi, vi, nm_r (by rw [ci, fw_cp_s]) ⟨vi, vi, nm_r (by rw [ci, fw_cp_s]) ⟨vi, vi, nm_r (by rw [ci, fw_cp_s]) ⟨vi, vi, nm_r (by rw [ci, fw_cp_s]) (nm_r (nI_1 i) (ih (i + 1) (by omega)))⟩⟩⟩⟩
theorem fd_Y {n : Nat} (hn : n ≤ 40) {post : Int32 → SY → Prop} (hp : post 0 (nI n, ysz, yfd, yls, ymd, ysa, ytk, ydp, yps, ybi, ysp, yus, ynx, yra, yrd, iK, iA, iB, fw_cp iK FK n, fw_cp iA FA n, fw_cp iB FB n, inp, lst, out, vs, yO, yN, yS, yT)) : ∀ d i : Nat, i + d = n → wY_compile_44 post (nI n) ysz yfd yls ymd ysa ytk ydp yps ybi ysp yus ynx yra yrd (d + 1) (nI i) iK iA iB (fw_cp iK FK i) (fw_cp iA FA i) (fw_cp iB FB i) inp lst out vs yO yN yS yT := by
  intro d
  induction d with
  | zero =>
    intro i hi
    have e : i = n := by omega
    rw [e]
    exact br_t (nI_le (by omega) (by omega)) hp
  | succ d ih =>
    intro i hi
    have c1 : ¬ nI n ≤ nI i := nI_ge (by omega) (by omega)
    have vi : vp_in (nI i) 40 := vp_in_nI (by omega) (by omega)
    have ci : (nI i).toNatClampNeg = i := nI_clamp (by omega)
    exact br_f c1 ⟨vi, vi, nm_r (by rw [ci, fw_cp_s]) ⟨vi, vi, nm_r (by rw [ci, fw_cp_s]) ⟨vi, vi, nm_r (by rw [ci, fw_cp_s]) (nm_r (nI_1 i) (ih (i + 1) (by omega)))⟩⟩⟩
theorem fd_X0 {n : Nat} (hn : n ≤ 40) {post : SX → Prop} (hp : post (nI n, xoc, nI n, 1, xil, xll, xol, xea, xwr, xcu, xfo, xsp, xpo, xbl, xli, xvu, iK, iA, iB, xM, xO, xS, fw_cp iK FK n, fw_cp iA FA n, fw_cp iB FB n, fw_cp xM FM n, inp, lst, out, vs, xR, xL)) : wpX_adoptItems post (nI n, xoc, xfc, xhf, xil, xll, xol, xea, xwr, xcu, xfo, xsp, xpo, xbl, xli, xvu, iK, iA, iB, xM, xO, xS, FK, FA, FB, FM, inp, lst, out, vs, xR, xL) := by
  have h := fd_X hn hp n 0 (by omega) (xfc := xfc) (xhf := xhf)
  rw [fw_cp_0, fw_cp_0, fw_cp_0, fw_cp_0] at h
  exact ⟨n + 1, h⟩
end
theorem i_vc_compile {k : Nat} {u : SX} {v : SY} (I : i_Rel k u v) (hk : k + 4 ≤ 2048) : wpX_compile (fun r u' => wpY_compile (fun r' v' => r' = r ∧ i_Rel (k + 4) u' v') v) u := by
  obtain ⟨xic, xoc, xfc, xhf, xil, xll, xol, xea, xwr, xcu, xfo, xsp, xpo, xbl, xli, xvu, iK, iA, iB, xM, xO, xS, FK, FA, FB, FM, inp, lst, out, vs, xR, xL⟩ := u
  obtain ⟨yic, ysz, yfd, yls, ymd, ysa, ytk, ydp, yps, ybi, ysp, yus, ynx, yra, yrd, yK, yA, yB, zK, zA, zB, yin, ylst, yout, yvs, yO, yN, yS, yT⟩ := v
  obtain ⟨n, fd, ll, md, rfl, rfl, rfl, rfl, rfl, rfl, rfl, rfl, rfl, rfl, rfl, rfl, rfl, rfl, rfl, rfl, rfl, rfl, rfl, rfl, h1, h2, h3, h4, h5, h6⟩ := I
  have hK : ∀ j, j < n → ∃ c : Nat, c ≤ 13 ∧ iK j = nI c := by
    intro j hj
    obtain ⟨c, q1, q2, _⟩ := h5 j hj
    exact ⟨c, q1, q2⟩
  obtain ⟨r, oc', xO', xM', yO', HX, HY, hr⟩ := fc_lock h1 hK n 0 0 xO xM yO (by omega) (fw_Wf_0 iK) rfl trivial (fun i hi => absurd hi (Nat.not_lt_zero i)) (fun o e hm => by cases hm) (xfc := xfc) (xhf := xhf) (xil := nI fd) (xll := nI ll) (xol := nI md) (xea := xea) (xwr := xwr) (xcu := xcu) (xfo := xfo) (xsp := xsp) (xpo := xpo) (xbl := xbl) (xli := xli) (xvu := xvu) (iA := iA) (iB := iB) (xS := xS) (FK := FK) (FA := FA) (FB := FB) (FM := FM) (inp := inp) (lst := lst) (out := out) (vs := vs) (xR := xR) (xL := xL) (ysz := ysz) (yfd := nI fd) (yls := nI ll) (ymd := nI md) (ysa := xea) (ytk := xpo) (ydp := ydp) (yps := yps) (ybi := ybi) (ysp := ysp) (yus := yus) (ynx := ynx) (yra := yra) (yrd := yrd) (yN := yN) (yS := yS) (yT := yT)
  unfold wpX_compile
  dsimp only
  refine ⟨n + 1, HX _ ?_⟩
  rcases hr with ⟨rfl, G⟩ | ⟨r1, r2⟩
  · refine br_t rfl ?_
    obtain ⟨r', xS', yO2, yS2, yT2, HX2, HY2, hr2⟩ := fu_lock h1 G hK n 0 0 0 xS yO' yS yT (by omega) rfl trivial (xoc := oc') (xfc := xfc) (xhf := xhf) (xil := nI fd) (xll := nI ll) (xol := nI md) (xea := -1) (xwr := xwr) (xcu := xcu) (xfo := xfo) (xsp := xsp) (xpo := xpo) (xbl := xbl) (xli := xli) (xvu := xvu) (iA := iA) (iB := iB) (xO := xO') (FK := FK) (FA := FA) (FB := FB) (FM := FM) (inp := inp) (lst := lst) (out := out) (vs := vs) (xR := xR) (xL := xL) (ysz := ysz) (yfd := nI fd) (yls := nI ll) (ymd := nI md) (ysa := -1) (ytk := xpo) (ydp := ydp) (yps := yps) (ybi := ybi) (ysp := ysp) (yus := yus) (ynx := ynx) (yra := yra) (yrd := yrd) (yN := yN)
    refine ⟨n + 1, HX2 _ ?_⟩
    rcases hr2 with rfl | ⟨r3, r4⟩
    · refine br_t rfl (fd_X0 h1 ?_)
      unfold wpY_compile
      dsimp only
      refine ⟨n + 1, HY _ (br_t (by decide) ⟨n + 1, HY2 _ (br_t (by decide) ⟨n + 1, ?_⟩)⟩)⟩
      have h := fd_Y h1 (iK := iK) (iA := iA) (iB := iB) (FK := FK) (FA := FA) (FB := FB) (post := fun r' v' => r' = 0 ∧ i_Rel (k + 4) (nI n, oc', nI n, 1, nI fd, nI ll, nI md, -1, xwr, xcu, xfo, xsp, xpo, xbl, xli, xvu, iK, iA, iB, xM', xO', xS', fw_cp iK FK n, fw_cp iA FA n, fw_cp iB FB n, fw_cp xM' FM n, inp, lst, out, vs, xR, xL) v') (ysz := nI n) (yfd := nI fd) (yls := nI ll) (ymd := nI md) (ysa := -1) (ytk := xpo) (ydp := ydp) (yps := yps) (ybi := ybi) (ysp := ysp) (yus := yus) (ynx := ynx) (yra := yra) (yrd := yrd) (inp := inp) (lst := lst) (out := out) (vs := vs) (yO := yO2) (yN := yN) (yS := yS2) (yT := yT2) ?_ n 0 (by omega)
      · rw [fw_cp_0, fw_cp_0, fw_cp_0] at h
        exact h
      · refine ⟨rfl, n, fd, ll, md, rfl, rfl, rfl, rfl, rfl, rfl, rfl, rfl, rfl, rfl, rfl, rfl, rfl, rfl, rfl, rfl, rfl, rfl, rfl, rfl, h1, h2, h3, h4, h5, Or.inr ⟨rfl, n, rfl, rfl, h1, ?_, ?_⟩⟩
        · exact fw_Good_congr G (fun j hj => (fw_cp_lt hj).symm) (fun j hj => (fw_cp_lt hj).symm)
        · intro j hj
          rw [fw_cp_lt hj, fw_cp_lt hj]
          exact h5 j hj
    · refine br_f r4 ?_
      unfold wpY_compile
      dsimp only
      refine ⟨n + 1, HY _ (br_t (by decide) ⟨n + 1, HY2 _ (br_f r3 ?_)⟩)⟩
      exact ⟨rfl, n, fd, ll, md, rfl, rfl, rfl, rfl, rfl, rfl, rfl, rfl, rfl, rfl, rfl, rfl, rfl, rfl, rfl, rfl, rfl, rfl, rfl, rfl, h1, h2, h3, h4, h5, h6⟩
  · refine br_f r2 ?_
    unfold wpY_compile
    dsimp only
    refine ⟨n + 1, HY _ (br_f r1 ?_)⟩
    exact ⟨rfl, n, fd, ll, md, rfl, rfl, rfl, rfl, rfl, rfl, rfl, rfl, rfl, rfl, rfl, rfl, rfl, rfl, rfl, rfl, rfl, rfl, rfl, rfl, h1, h2, h3, h4, h5, h6⟩
