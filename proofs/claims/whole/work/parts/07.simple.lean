/-! the methods without a run -/
theorem i_vc_wipe {k : Nat} {u : SX} {v : SY} (I : i_Rel k u v) (hk : k + 4 ≤ 2048) : wpX_wipe (fun r u' => wpY_wipe (fun r' v' => r' = r ∧ i_Rel (k + 4) u' v') v) u := by
  obtain ⟨xic, xoc, xfc, xhf, xil, xll, xol, xea, xwr, xcu, xfo, xsp, xpo, xbl, xli, xvu, iK, iA, iB, xM, xO, xS, FK, FA, FB, FM, inp, lst, out, vs, xR, xL⟩ := u
  obtain ⟨yic, ysz, yfd, yls, ymd, ysa, ytk, ydp, yps, ybi, ysp, yus, ynx, yra, yrd, yK, yA, yB, zK, zA, zB, yin, ylst, yout, yvs, yO, yN, yS, yT⟩ := v
  obtain ⟨n, fd, ll, md, rfl, rfl, rfl, rfl, rfl, rfl, rfl, rfl, rfl, rfl, rfl, rfl, rfl, rfl, rfl, rfl, rfl, rfl, rfl, rfl, h1, h2, h3, h4, h5, h6⟩ := I
  exact ⟨rfl, 0, fd, ll, md, rfl, rfl, rfl, rfl, rfl, rfl, rfl, rfl, rfl, rfl, rfl, rfl, rfl, rfl, rfl, rfl, rfl, rfl, rfl, rfl, by omega, h2, h3, h4, fun j h => absurd h (Nat.not_lt_zero j), h6⟩
theorem i_vc_drop {k : Nat} {u : SX} {v : SY} (I : i_Rel k u v) (hk : k + 4 ≤ 2048) : wpX_drop (fun r u' => wpY_drop (fun r' v' => r' = r ∧ i_Rel (k + 4) u' v') v) u := by
  obtain ⟨xic, xoc, xfc, xhf, xil, xll, xol, xea, xwr, xcu, xfo, xsp, xpo, xbl, xli, xvu, iK, iA, iB, xM, xO, xS, FK, FA, FB, FM, inp, lst, out, vs, xR, xL⟩ := u
  obtain ⟨yic, ysz, yfd, yls, ymd, ysa, ytk, ydp, yps, ybi, ysp, yus, ynx, yra, yrd, yK, yA, yB, zK, zA, zB, yin, ylst, yout, yvs, yO, yN, yS, yT⟩ := v
  obtain ⟨n, fd, ll, md, rfl, rfl, rfl, rfl, rfl, rfl, rfl, rfl, rfl, rfl, rfl, rfl, rfl, rfl, rfl, rfl, rfl, rfl, rfl, rfl, h1, h2, h3, h4, h5, h6⟩ := I
  exact ⟨rfl, n, fd, 0, md, rfl, rfl, rfl, rfl, rfl, rfl, rfl, rfl, rfl, rfl, rfl, rfl, rfl, rfl, rfl, rfl, rfl, rfl, rfl, rfl, h1, h2, by omega, h4, h5, h6⟩
theorem i_vc_place {k : Nat} {u : SX} {v : SY} (I : i_Rel k u v) (hk : k + 4 ≤ 2048) : wpX_place (fun r => wpY_place (fun r' => r' = r ∧ i_Rel (k + 4) u v) v) u := by
  have J := I
  obtain ⟨xic, xoc, xfc, xhf, xil, xll, xol, xea, xwr, xcu, xfo, xsp, xpo, xbl, xli, xvu, iK, iA, iB, xM, xO, xS, FK, FA, FB, FM, inp, lst, out, vs, xR, xL⟩ := u
  obtain ⟨yic, ysz, yfd, yls, ymd, ysa, ytk, ydp, yps, ybi, ysp, yus, ynx, yra, yrd, yK, yA, yB, zK, zA, zB, yin, ylst, yout, yvs, yO, yN, yS, yT⟩ := v
  obtain ⟨n, fd, ll, md, rfl, rfl, rfl, rfl, rfl, rfl, rfl, rfl, rfl, rfl, rfl, rfl, rfl, rfl, rfl, rfl, rfl, rfl, rfl, rfl, h1, h2, h3, h4, h5, h6⟩ := I
  exact ⟨rfl, J⟩
theorem i_vc_at {k : Nat} {u : SX} {v : SY} (I : i_Rel k u v) (hk : k + 4 ≤ 2048) : wpX_at (fun r => wpY_at (fun r' => r' = r ∧ i_Rel (k + 4) u v) v) u := by
  have J := I
  obtain ⟨xic, xoc, xfc, xhf, xil, xll, xol, xea, xwr, xcu, xfo, xsp, xpo, xbl, xli, xvu, iK, iA, iB, xM, xO, xS, FK, FA, FB, FM, inp, lst, out, vs, xR, xL⟩ := u
  obtain ⟨yic, ysz, yfd, yls, ymd, ysa, ytk, ydp, yps, ybi, ysp, yus, ynx, yra, yrd, yK, yA, yB, zK, zA, zB, yin, ylst, yout, yvs, yO, yN, yS, yT⟩ := v
  obtain ⟨n, fd, ll, md, rfl, rfl, rfl, rfl, rfl, rfl, rfl, rfl, rfl, rfl, rfl, rfl, rfl, rfl, rfl, rfl, rfl, rfl, rfl, rfl, h1, h2, h3, h4, h5, h6⟩ := I
  exact ⟨rfl, J⟩
theorem i_vc_values {k : Nat} {u : SX} {v : SY} (I : i_Rel k u v) (hk : k + 4 ≤ 2048) : wpX_values (fun r => wpY_values (fun r' => r' = r ∧ i_Rel (k + 4) u v) v) u := by
  have J := I
  obtain ⟨xic, xoc, xfc, xhf, xil, xll, xol, xea, xwr, xcu, xfo, xsp, xpo, xbl, xli, xvu, iK, iA, iB, xM, xO, xS, FK, FA, FB, FM, inp, lst, out, vs, xR, xL⟩ := u
  obtain ⟨yic, ysz, yfd, yls, ymd, ysa, ytk, ydp, yps, ybi, ysp, yus, ynx, yra, yrd, yK, yA, yB, zK, zA, zB, yin, ylst, yout, yvs, yO, yN, yS, yT⟩ := v
  obtain ⟨n, fd, ll, md, rfl, rfl, rfl, rfl, rfl, rfl, rfl, rfl, rfl, rfl, rfl, rfl, rfl, rfl, rfl, rfl, rfl, rfl, rfl, rfl, h1, h2, h3, h4, h5, h6⟩ := I
  exact ⟨rfl, J⟩
theorem i_vc_bytes {k : Nat} {u : SX} {v : SY} (I : i_Rel k u v) (hk : k + 4 ≤ 2048) : wpX_bytes (fun r => wpY_bytes (fun r' => r' = r ∧ i_Rel (k + 4) u v) v) u := by
  have J := I
  obtain ⟨xic, xoc, xfc, xhf, xil, xll, xol, xea, xwr, xcu, xfo, xsp, xpo, xbl, xli, xvu, iK, iA, iB, xM, xO, xS, FK, FA, FB, FM, inp, lst, out, vs, xR, xL⟩ := u
  obtain ⟨yic, ysz, yfd, yls, ymd, ysa, ytk, ydp, yps, ybi, ysp, yus, ynx, yra, yrd, yK, yA, yB, zK, zA, zB, yin, ylst, yout, yvs, yO, yN, yS, yT⟩ := v
  obtain ⟨n, fd, ll, md, rfl, rfl, rfl, rfl, rfl, rfl, rfl, rfl, rfl, rfl, rfl, rfl, rfl, rfl, rfl, rfl, rfl, rfl, rfl, rfl, h1, h2, h3, h4, h5, h6⟩ := I
  exact ⟨rfl, J⟩
theorem i_vc_valueAt {k : Nat} {u : SX} {v : SY} (I : i_Rel k u v) (hk : k + 4 ≤ 2048) (v1 : Int32) : wpX_valueAt (fun r => wpY_valueAt (fun r' => r' = r ∧ i_Rel (k + 4) u v) v v1) u v1 := by
  have J := I
  obtain ⟨xic, xoc, xfc, xhf, xil, xll, xol, xea, xwr, xcu, xfo, xsp, xpo, xbl, xli, xvu, iK, iA, iB, xM, xO, xS, FK, FA, FB, FM, inp, lst, out, vs, xR, xL⟩ := u
  obtain ⟨yic, ysz, yfd, yls, ymd, ysa, ytk, ydp, yps, ybi, ysp, yus, ynx, yra, yrd, yK, yA, yB, zK, zA, zB, yin, ylst, yout, yvs, yO, yN, yS, yT⟩ := v
  obtain ⟨n, fd, ll, md, rfl, rfl, rfl, rfl, rfl, rfl, rfl, rfl, rfl, rfl, rfl, rfl, rfl, rfl, rfl, rfl, rfl, rfl, rfl, rfl, h1, h2, h3, h4, h5, h6⟩ := I
  by_cases h0 : v1 < 0
  · exact br_t h0 (br_t h0 ⟨rfl, J⟩)
  · obtain ⟨j, hj, rfl⟩ := nI_of h0
    by_cases hl : j < ll
    · have hi : vp_in (nI j) 40 := vp_in_nI (by omega) (by omega)
      exact br_f h0 (br_f (nI_ge hl (by omega)) ⟨hi, br_f h0 (br_t (nI_lt hl (by omega)) ⟨hi, rfl, J⟩)⟩)
    · exact br_f h0 (br_t (nI_le (by omega) hj) (br_f h0 (br_f (nI_nlt (by omega) hj) ⟨rfl, J⟩)))
theorem i_vc_byteAt {k : Nat} {u : SX} {v : SY} (I : i_Rel k u v) (hk : k + 4 ≤ 2048) (v1 : Int32) : wpX_byteAt (fun r => wpY_byteAt (fun r' => r' = r ∧ i_Rel (k + 4) u v) v v1) u v1 := by
  have J := I
  obtain ⟨xic, xoc, xfc, xhf, xil, xll, xol, xea, xwr, xcu, xfo, xsp, xpo, xbl, xli, xvu, iK, iA, iB, xM, xO, xS, FK, FA, FB, FM, inp, lst, out, vs, xR, xL⟩ := u
  obtain ⟨yic, ysz, yfd, yls, ymd, ysa, ytk, ydp, yps, ybi, ysp, yus, ynx, yra, yrd, yK, yA, yB, zK, zA, zB, yin, ylst, yout, yvs, yO, yN, yS, yT⟩ := v
  obtain ⟨n, fd, ll, md, rfl, rfl, rfl, rfl, rfl, rfl, rfl, rfl, rfl, rfl, rfl, rfl, rfl, rfl, rfl, rfl, rfl, rfl, rfl, rfl, h1, h2, h3, h4, h5, h6⟩ := I
  by_cases h0 : v1 < 0
  · exact br_t h0 (br_t h0 ⟨rfl, J⟩)
  · obtain ⟨j, hj, rfl⟩ := nI_of h0
    by_cases hl : j < md
    · have hi : vp_in (nI j) 64 := vp_in_nI (by omega) (by omega)
      exact br_f h0 (br_f (nI_ge hl (by omega)) ⟨hi, br_f h0 (br_t (nI_lt hl (by omega)) ⟨hi, rfl, J⟩)⟩)
    · exact br_f h0 (br_t (nI_le (by omega) hj) (br_f h0 (br_f (nI_nlt (by omega) hj) ⟨rfl, J⟩)))
theorem i_vc_variable {k : Nat} {u : SX} {v : SY} (I : i_Rel k u v) (hk : k + 4 ≤ 2048) (v1 : Int32) : wpX_variable (fun r => wpY_variable (fun r' => r' = r ∧ i_Rel (k + 4) u v) v v1) u v1 := by
  have J := I
  obtain ⟨xic, xoc, xfc, xhf, xil, xll, xol, xea, xwr, xcu, xfo, xsp, xpo, xbl, xli, xvu, iK, iA, iB, xM, xO, xS, FK, FA, FB, FM, inp, lst, out, vs, xR, xL⟩ := u
  obtain ⟨yic, ysz, yfd, yls, ymd, ysa, ytk, ydp, yps, ybi, ysp, yus, ynx, yra, yrd, yK, yA, yB, zK, zA, zB, yin, ylst, yout, yvs, yO, yN, yS, yT⟩ := v
  obtain ⟨n, fd, ll, md, rfl, rfl, rfl, rfl, rfl, rfl, rfl, rfl, rfl, rfl, rfl, rfl, rfl, rfl, rfl, rfl, rfl, rfl, rfl, rfl, h1, h2, h3, h4, h5, h6⟩ := I
  by_cases h0 : v1 < 0
  · exact br_t h0 (br_t h0 ⟨rfl, J⟩)
  · obtain ⟨j, hj, rfl⟩ := nI_of h0
    by_cases hl : j < 8
    · have hi : vp_in (nI j) 8 := vp_in_nI (by omega) (by omega)
      exact br_f h0 (br_f (nI_ge (b := 8) hl (by decide)) ⟨hi, br_f h0 (br_t (nI_le (b := 7) (by omega) (by decide)) ⟨hi, rfl, J⟩)⟩)
    · exact br_f h0 (br_t (nI_le (a := 8) (by omega) hj) (br_f h0 (br_f (nI_ge (a := 7) (by omega) hj) ⟨rfl, J⟩)))
theorem i_vc_value {k : Nat} {u : SX} {v : SY} (I : i_Rel k u v) (hk : k + 4 ≤ 2048) (v1 : Int32) : wpX_value (fun r u' => wpY_value (fun r' v' => r' = r ∧ i_Rel (k + 4) u' v') v v1) u v1 := by
  have J := I
  obtain ⟨xic, xoc, xfc, xhf, xil, xll, xol, xea, xwr, xcu, xfo, xsp, xpo, xbl, xli, xvu, iK, iA, iB, xM, xO, xS, FK, FA, FB, FM, inp, lst, out, vs, xR, xL⟩ := u
  obtain ⟨yic, ysz, yfd, yls, ymd, ysa, ytk, ydp, yps, ybi, ysp, yus, ynx, yra, yrd, yK, yA, yB, zK, zA, zB, yin, ylst, yout, yvs, yO, yN, yS, yT⟩ := v
  obtain ⟨n, fd, ll, md, rfl, rfl, rfl, rfl, rfl, rfl, rfl, rfl, rfl, rfl, rfl, rfl, rfl, rfl, rfl, rfl, rfl, rfl, rfl, rfl, h1, h2, h3, h4, h5, h6⟩ := I
  by_cases hl : ll < 40
  · have hi : vp_in (nI ll) 40 := vp_in_nI (by omega) (by omega)
    have e1 : nI ll + 1 = nI (ll + 1) := nI_1 ll
    have c1 : nI ll < (40 : Int32) := nI_lt (b := 40) hl (by decide)
    have c2 : ¬ nI ll = (40 : Int32) := fun z => by
      have := (nI_eq (a := ll) (b := 40) (by omega) (by omega)).mp z
      omega
    exact br_t c1 ⟨hi, nm_e (nm_r e1 (br_f c2 (nm_r e1 ⟨hi, nm_e ⟨rfl, n, fd, ll + 1, md, rfl, rfl, rfl, rfl, rfl, rfl, rfl, rfl, rfl, rfl, rfl, rfl, rfl, rfl, rfl, rfl, rfl, rfl, rfl, rfl, h1, h2, hl, h4, h5, h6⟩⟩)))⟩
  · have e : ll = 40 := by omega
    have c1 : ¬ nI ll < (40 : Int32) := nI_nlt (b := 40) (by omega) (by omega)
    have c2 : nI ll = (40 : Int32) := by rw [e]; rfl
    exact br_f c1 (br_t c2 ⟨rfl, J⟩)
section
variable {xic xoc xfc xhf xil xll xol xea xwr xcu xfo xsp xpo xbl xli xvu yic ysz yfd yls ymd ysa ytk ydp yps ybi ysp yus ynx yra yrd : Int32} {iK iA iB xM xO xS FK FA FB FM inp lst out vs xR xL yO yN yS yT : Nat → Int32}
theorem ff_Y64 {w : Int32} {m : Nat} (hm : m ≤ 4) : ∀ d c : Nat, c + d = m → ∀ post : Int32 → SY → Prop, post (nI 64) (yic, ysz, nI 64, yls, ymd, ysa, ytk, ydp, yps, ybi, ysp, yus, ynx, yra, yrd, iK, iA, iB, FK, FA, FB, inp, lst, out, vs, yO, yN, yS, yT) → wY_feed_14 post w (nI m) yic ysz yls ymd ysa ytk ydp yps ybi ysp yus ynx yra yrd (d + 1) (nI c) (nI 64) iK iA iB FK FA FB inp lst out vs yO yN yS yT := by
  intro d
  induction d with
  | zero => exact fun c hc post hp => br_t (nI_le (by omega) (by omega)) hp
  | succ d ih =>
    intro c hc post hp
    refine br_f (nI_ge (by omega) (by omega)) (br_t (by decide) (nm_r (nI_1 c) ?_))
    exact ih (c + 1) (by omega) post hp
theorem ff_lock {w : Int32} {m : Nat} (hm : m ≤ 4) : ∀ (d c fd : Nat) (inp : Nat → Int32), c + d = m → fd ≤ 64 → ∃ (fd' : Nat) (inp' : Nat → Int32), fd' ≤ 64 ∧ (∀ post : Int32 → SX → Prop, post (nI fd') (xic, xoc, xfc, xhf, nI fd', xll, xol, xea, xwr, xcu, xfo, xsp, xpo, xbl, xli, xvu, iK, iA, iB, xM, xO, xS, FK, FA, FB, FM, inp', lst, out, vs, xR, xL) → wX_feed_14 post w (nI m) xic xoc xfc xhf xll xol xea xwr xcu xfo xsp xpo xbl xli xvu (d + 1) (nI c) (nI fd) iK iA iB xM xO xS FK FA FB FM inp lst out vs xR xL) ∧ (∀ post : Int32 → SY → Prop, post (nI fd') (yic, ysz, nI fd', yls, ymd, ysa, ytk, ydp, yps, ybi, ysp, yus, ynx, yra, yrd, iK, iA, iB, FK, FA, FB, inp', lst, out, vs, yO, yN, yS, yT) → wY_feed_14 post w (nI m) yic ysz yls ymd ysa ytk ydp yps ybi ysp yus ynx yra yrd (d + 1) (nI c) (nI fd) iK iA iB FK FA FB inp lst out vs yO yN yS yT) := by
  intro d
  induction d with
  | zero =>
    intro c fd inp hc hf
    have h : nI m ≤ nI c := nI_le (by omega) (by omega)
    exact ⟨fd, inp, hf, fun post hp => br_t h hp, fun post hp => br_t h hp⟩
  | succ d ih =>
    intro c fd inp hc hf
    have h : ¬ nI m ≤ nI c := nI_ge (by omega) (by omega)
    by_cases hl : fd < 64
    · have h64 : ¬ (64 : Int32) ≤ nI fd := nI_ge (b := 64) hl (by decide)
      have hi : vp_in (nI fd) 64 := vp_in_nI hl (by omega)
      have ec : (nI fd).toNatClampNeg = fd := nI_clamp (by omega)
      have e8 : (8 : Int32) * nI c = nI (8 * c) := pk_mul 8 c
      obtain ⟨fd', inp', hf', HX, HY⟩ := ih (c + 1) (fd + 1) (upd inp fd ((w >>> (nI (8 * c) &&& 31)) &&& 255)) (by omega) (by omega)
      refine ⟨fd', inp', hf', fun post hp => br_f h (br_f h64 ⟨hi, nm_r ?_ (nm_r (nI_1 fd) (nm_r (nI_1 c) (HX post hp)))⟩), fun post hp => br_f h (br_f h64 (nm_r (nI_1 fd) ⟨hi, nm_r ?_ (nm_r (nI_1 c) (HY post hp))⟩))⟩
      · rw [ec, e8, fb_byte w (by omega)]
      · rw [ec, e8]
    · have e : fd = 64 := by omega
      subst e
      refine ⟨64, inp, by omega, fun post hp => br_f h (br_t (by decide) hp), fun post hp => ?_⟩
      exact ff_Y64 hm (d + 1) c hc post hp
end
theorem i_vc_feed {k : Nat} {u : SX} {v : SY} (I : i_Rel k u v) (hk : k + 4 ≤ 2048) (v1 : Int32) (v2 : Int32) : wpX_feed (fun r u' => wpY_feed (fun r' v' => r' = r ∧ i_Rel (k + 4) u' v') v v1 v2) u v1 v2 := by
  have J := I
  obtain ⟨xic, xoc, xfc, xhf, xil, xll, xol, xea, xwr, xcu, xfo, xsp, xpo, xbl, xli, xvu, iK, iA, iB, xM, xO, xS, FK, FA, FB, FM, inp, lst, out, vs, xR, xL⟩ := u
  obtain ⟨yic, ysz, yfd, yls, ymd, ysa, ytk, ydp, yps, ybi, ysp, yus, ynx, yra, yrd, yK, yA, yB, zK, zA, zB, yin, ylst, yout, yvs, yO, yN, yS, yT⟩ := v
  obtain ⟨n, fd, ll, md, rfl, rfl, rfl, rfl, rfl, rfl, rfl, rfl, rfl, rfl, rfl, rfl, rfl, rfl, rfl, rfl, rfl, rfl, rfl, rfl, h1, h2, h3, h4, h5, h6⟩ := I
  by_cases c1 : v2 < 1
  · exact br_t c1 (br_t c1 ⟨rfl, J⟩)
  · by_cases c2 : v2 ≤ 4
    · have h0 : ¬ v2 < 0 := fun z => c1 (Int32.lt_trans z (by decide))
      obtain ⟨m, hm, rfl⟩ := nI_of2 (n := 4) (by decide) h0 c2
      obtain ⟨fd', inp', hf', HX, HY⟩ := ff_lock (w := v1) hm m 0 fd inp (by omega) h2 (xic := nI n) (xoc := xoc) (xfc := xfc) (xhf := xhf) (xll := nI ll) (xol := nI md) (xea := xea) (xwr := xwr) (xcu := xcu) (xfo := xfo) (xsp := xsp) (xpo := xpo) (xbl := xbl) (xli := xli) (xvu := xvu) (iK := iK) (iA := iA) (iB := iB) (xM := xM) (xO := xO) (xS := xS) (FK := FK) (FA := FA) (FB := FB) (FM := FM) (lst := lst) (out := out) (vs := vs) (xR := xR) (xL := xL) (yic := nI n) (ysz := ysz) (yls := nI ll) (ymd := nI md) (ysa := xea) (ytk := xpo) (ydp := ydp) (yps := yps) (ybi := ybi) (ysp := ysp) (yus := yus) (ynx := ynx) (yra := yra) (yrd := yrd) (yO := yO) (yN := yN) (yS := yS) (yT := yT)
      exact br_f c1 (br_t c2 ⟨m + 1, HX _ (br_f c1 (br_t c2 ⟨m + 1, HY _ ⟨rfl, n, fd', ll, md, rfl, rfl, rfl, rfl, rfl, rfl, rfl, rfl, rfl, rfl, rfl, rfl, rfl, rfl, rfl, rfl, rfl, rfl, rfl, rfl, h1, hf', h3, h4, h5, h6⟩⟩))⟩)
    · exact br_f c1 (br_f c2 (br_f c1 (br_f c2 ⟨rfl, J⟩)))
