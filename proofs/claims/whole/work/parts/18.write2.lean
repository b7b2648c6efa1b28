/-! VAR and BITS, given -/
section
variable {xic xoc xfc xhf xil xll xol xea xwr xcu xfo xsp xpo xbl xli xvu yic ysz yfd yls ymd ysa ytk ydp yps ybi ysp yus ynx yra yrd : Int32} {iK iA iB xM xO xS FK FA FB FM inp lst out vs xR xL yO yN yS yT : Nat → Int32}
variable {N fd ll i sp p b lim us dp base S : Nat} {w : Bool}
def fi_B (x : Int32) (p g : Nat) : Nat → Int32 := fun t => if t + 1 < p + g then (fi_U x (t - p) &&& 127) ||| 128 else fi_U x (t - p) &&& 127
theorem rw_VX {post : Int32 → SX → Prop} {g : Nat} {v x : Int32} {out0 : Nat → Int32} (h1 : 1 ≤ g) (h5 : g ≤ 5) (hpg : p + g ≤ 64) (H : wpX_keepWritten (fun u => match u with | (xic, xoc, xfc, xhf, xil, xll, xol, xea, xwr, xcu, xfo, xsp, xpo, xbl, xli, xvu, iK, iA, iB, xM, xO, xS, FK, FA, FB, FM, inp, lst, out, vs, xR, xL) => post 0 (xic, xoc, xfc, xhf, xil, xll, xol, xea, xwr, xcu, xfo, xsp, xpo, xbl, xli, xvu, iK, iA, iB, xM, xO, xS, FK, FA, FB, FM, inp, lst, out, vs, xR, xL)) (xic, xoc, nI N, xhf, nI fd, nI ll, xol, xea, fw_w w, nI i, xfo, nI sp, nI (p + g), nI b, nI lim, nI us, iK, iA, iB, xM, xO, xS, FK, FA, FB, FM, inp, lst, fo (fi_B x p g) out0 p (p + g), vs, xR, xL) x v) : ∀ (d j : Nat), j + d = g → wX_writeVar_50 post v x (nI g) xic xoc (nI N) xhf (nI fd) (nI ll) xol xea (fw_w w) (nI i) xfo (nI sp) (nI p) (nI b) (nI lim) (nI us) (d + 1) (nI j) iK iA iB xM xO xS FK FA FB FM inp lst (fo (fi_B x p g) out0 p (p + j)) vs xR xL := by
  intro d
  induction d with
  | zero =>
    intro j hj
    have e : j = g := by omega
    rw [e]
    exact br_t (nI_le (by omega) (by omega)) (nm_r (nI_add p g) H)
  | succ d ih =>
    intro j hj
    have e7 : (7 : Int32) * nI j = nI (7 * j) := pk_mul 7 j
    have e1 : nI p + nI j = nI (p + j) := nI_add p j
    have v1 : vp_in (nI p + nI j) 64 := by rw [e1]; exact vp_in_nI (by omega) (by omega)
    have c1 : (nI p + nI j).toNatClampNeg = p + j := by rw [e1]; exact nI_clamp (by omega)
    have eg : nI g - 1 = nI (g - 1) := pk_sub (b := 1) (by omega)
    have ex : ((x.toUInt32 >>> ((7 * nI j).toUInt32 &&& Int32.toUInt32 31)).toInt32) &&& 127 = fi_U x j &&& 127 := by rw [e7]; rfl
    have K := ih (j + 1) (by omega)
    refine br_f (nI_ge (by omega) (by omega)) (nm_r ex ?_)
    by_cases z : j + 1 < g
    · refine br_f (by rw [eg]; exact nI_ge (by omega) (by omega)) ⟨v1, nm_r (e' := fo (fi_B x p g) out0 p (p + (j + 1))) ?_ (nm_r (nI_1 j) K)⟩
      have eB : fi_B x p g (p + j) = (fi_U x j &&& 127) ||| 128 := by
        unfold fi_B
        rw [if_pos (by omega), show p + j - p = j by omega]
      rw [c1, ← eB, fo_s _ _ (by omega), Nat.add_assoc]
    · refine br_t (by rw [eg]; exact nI_le (by omega) (by omega)) ⟨v1, nm_r (e' := fo (fi_B x p g) out0 p (p + (j + 1))) ?_ (nm_r (nI_1 j) K)⟩
      have eB : fi_B x p g (p + j) = fi_U x j &&& 127 := by
        unfold fi_B
        rw [if_neg (by omega), show p + j - p = j by omega]
      rw [c1, ← eB, fo_s _ _ (by omega), Nat.add_assoc]
theorem rw_VY {post : Int32 → SY → Prop} {g : Nat} {x : Int32} {out0 : Nat → Int32} (h1 : 1 ≤ g) (h5 : g ≤ 5) (hpg : p + g ≤ 64) (H : post 0 (yic, nI N, nI fd, nI ll, ymd, ysa, ytk, nI dp, nI (p + g), nI b, nI sp, nI us, ynx, yra, fw_r w, iK, iA, iB, FK, FA, FB, inp, lst, fo (fi_B x p g) out0 p (p + g), vs, yO, yN, yS, yT)) : ∀ (d j : Nat), j + d = g → wY_give_307 post x (nI g) yic (nI N) (nI fd) (nI ll) ymd ysa ytk (nI dp) (nI b) (nI sp) (nI us) ynx yra (fw_r w) (d + 1) (nI j) (nI (p + j)) iK iA iB FK FA FB inp lst (fo (fi_B x p g) out0 p (p + j)) vs yO yN yS yT := by
  intro d
  induction d with
  | zero =>
    intro j hj
    have e : j = g := by omega
    rw [e]
    exact br_t (nI_le (by omega) (by omega)) H
  | succ d ih =>
    intro j hj
    have e7 : (7 : Int32) * nI j = nI (7 * j) := pk_mul 7 j
    have v1 : vp_in (nI (p + j)) 64 := vp_in_nI (by omega) (by omega)
    have c1 : (nI (p + j)).toNatClampNeg = p + j := nI_clamp (by omega)
    have ex : ((x.toUInt32 >>> ((7 * nI j).toUInt32 &&& Int32.toUInt32 31)).toInt32) &&& 127 = fi_U x j &&& 127 := by rw [e7]; rfl
    have K := ih (j + 1) (by omega)
    refine br_f (nI_ge (by omega) (by omega)) (nm_r (nI_1 (p + j)) ?_)
    by_cases z : j + 1 < g
    · refine br_f (by rw [nI_1]; exact nI_ge (by omega) (by omega)) ⟨v1, nm_r (e' := fo (fi_B x p g) out0 p (p + (j + 1))) ?_ (nm_r (nI_1 j) K)⟩
      have eB : fi_B x p g (p + j) = (fi_U x j &&& 127) ||| 128 := by
        unfold fi_B
        rw [if_pos (by omega), show p + j - p = j by omega]
      rw [c1, ex, ← eB, fo_s _ _ (by omega), Nat.add_assoc]
    · refine br_t (by rw [nI_1]; exact nI_le (by omega) (by omega)) ⟨v1, nm_r (e' := fo (fi_B x p g) out0 p (p + (j + 1))) ?_ (nm_r (nI_1 j) K)⟩
      have eB : fi_B x p g (p + j) = fi_U x j &&& 127 := by
        unfold fi_B
        rw [if_neg (by omega), show p + j - p = j by omega]
      rw [c1, ex, fb_0or, ← eB, fo_s _ _ (by omega), Nat.add_assoc]
theorem rx_V12 {post : Int32 → SX → Prop} {v x : Int32} {g : Nat} (h5 : g ≤ 5) (hlt : ∀ l, 1 ≤ l → l < g → ¬ fi_U x l = 0) (hg : g < 5 → fi_U x g = 0) (H : wX_writeVar_32 post v x (nI g) xic xoc (nI N) xhf (nI fd) (nI ll) xol xea (fw_w w) (nI i) xfo (nI sp) (nI p) (nI b) (nI lim) (nI us) iK iA iB xM xO xS FK FA FB FM inp lst out vs xR xL) : ∀ d l : Nat, 1 ≤ l → l + d = g → wX_writeVar_12 post v x xic xoc (nI N) xhf (nI fd) (nI ll) xol xea (fw_w w) (nI i) xfo (nI sp) (nI p) (nI b) (nI lim) (nI us) iK iA iB xM xO xS FK FA FB FM inp lst out vs xR xL (d + 1) (nI l) := by
  intro d
  induction d with
  | zero =>
    intro l h1 hl
    have e : l = g := by omega
    rw [e]
    by_cases z : g < 5
    · refine br_f (nI_ge (b := 5) z (by decide)) (br_t ?_ H)
      rw [show (7 : Int32) * nI g = nI (7 * g) from pk_mul 7 g]
      exact hg z
    · exact br_t (nI_le (a := 5) (by omega) (by omega)) H
  | succ d ih =>
    intro l h1 hl
    refine br_f (nI_ge (b := 5) (by omega) (by decide)) (br_f ?_ (nm_r (nI_1 l) (ih (l + 1) (by omega) (by omega))))
    rw [show (7 : Int32) * nI l = nI (7 * l) from pk_mul 7 l]
    exact hlt l h1 (by omega)
theorem rf_1w (E : fr_E FK xR xL yO yN N fd lim S i dp w) (hp : p ≤ lim) (hb : b ≤ 7) (hbp : 0 < b → 0 < p) (hus : us ≤ ll) (hll : ll ≤ 40) (hw : w = true) (hu : us < ll) : (∃ (r q : Int32), r ≠ 0 ∧ (w = true → q = nI p) ∧ (∀ post : Int32 → SX → Prop, post r (xic, xoc, nI N, xhf, nI fd, nI ll, xol, xea, fw_w w, nI i, xfo, nI sp, nI p, nI b, nI lim, nI us, iK, iA, iB, xM, xO, xS, FK, FA, FB, FM, inp, lst, out, vs, xR, xL) → wpX_doItem post (xic, xoc, nI N, xhf, nI fd, nI ll, xol, xea, fw_w w, nI i, xfo, nI sp, nI p, nI b, nI lim, nI us, iK, iA, iB, xM, xO, xS, FK, FA, FB, FM, inp, lst, out, vs, xR, xL) (nI 1) (FA i) (FB i)) ∧ (∀ post : Int32 → SY → Prop, post r (yic, nI N, nI fd, nI ll, ymd, ysa, ytk, nI dp, q, nI b, nI sp, nI us, ynx, yra, fw_r w, iK, iA, iB, FK, FA, FB, inp, lst, out, vs, yO, yN, yS, yT) → wY_item_113 post (nI i) (nI 1) yic (nI N) (nI fd) (nI ll) ymd ysa ytk (nI dp) (nI p) (nI b) (nI sp) (nI us) ynx yra (fw_r w) iK iA iB FK FA FB inp lst out vs yO yN yS yT)) ∨ (∃ (p' b' us' ll' : Nat) (lst' out' vs' : Nat → Int32), p' ≤ lim ∧ b' ≤ 7 ∧ (0 < b' → 0 < p') ∧ us' ≤ ll' ∧ ll' ≤ 40 ∧ (∀ post : Int32 → SX → Prop, post 0 (xic, xoc, nI N, xhf, nI fd, nI ll', xol, xea, fw_w w, nI i, xfo, nI sp, nI p', nI b', nI lim, nI us', iK, iA, iB, xM, xO, xS, FK, FA, FB, FM, inp, lst', out', vs', xR, xL) → wpX_doItem post (xic, xoc, nI N, xhf, nI fd, nI ll, xol, xea, fw_w w, nI i, xfo, nI sp, nI p, nI b, nI lim, nI us, iK, iA, iB, xM, xO, xS, FK, FA, FB, FM, inp, lst, out, vs, xR, xL) (nI 1) (FA i) (FB i)) ∧ (∀ post : Int32 → SY → Prop, post 0 (yic, nI N, nI fd, nI ll', ymd, ysa, ytk, nI dp, nI p', nI b', nI sp, nI us', ynx, yra, fw_r w, iK, iA, iB, FK, FA, FB, inp, lst', out', vs', yO, yN, yS, yT) → wY_item_113 post (nI i) (nI 1) yic (nI N) (nI fd) (nI ll) ymd ysa ytk (nI dp) (nI p) (nI b) (nI sp) (nI us) ynx yra (fw_r w) iK iA iB FK FA FB inp lst out vs yO yN yS yT)) := by
  obtain ⟨hi, hlim, ci, vi⟩ := rE_i E
  obtain ⟨v, hv, ev, vv, cv⟩ := rE_v (FB i)
  have ev' : FB (nI i).toNatClampNeg &&& 7 = nI v := by rw [ci]; exact ev
  have esub : nI lim - nI p = nI (lim - p) := pk_sub hp
  have vu : vp_in (nI us) 40 := vp_in_nI (by omega) (by omega)
  have eu : lst (nI us).toNatClampNeg = lst us := by rw [nI_clamp (by omega)]
  have nu : ¬ nI us = nI ll := fun z => by
    have := (nI_eq (by omega) (by omega)).mp z
    omega
  subst hw
  obtain ⟨g, g1, g5, glt, gg⟩ := fi_g (lst us)
  have HXin : ∀ post : Int32 → SX → Prop, wX_writeVar_32 (fun r u => match u with | (xic, xoc, xfc, xhf, xil, xll, xol, xea, xwr, xcu, xfo, xsp, xpo, xbl, xli, xvu, iK, iA, iB, xM, xO, xS, FK, FA, FB, FM, inp, lst, out, vs, xR, xL) => post r (xic, xoc, xfc, xhf, xil, xll, xol, xea, xwr, xcu, xfo, xsp, xpo, xbl, xli, xvu, iK, iA, iB, xM, xO, xS, FK, FA, FB, FM, inp, lst, out, vs, xR, xL)) (nI v) (lst us) (nI g) xic xoc (nI N) xhf (nI fd) (nI ll) xol xea (fw_w true) (nI i) xfo (nI sp) (nI p) (nI b) (nI lim) (nI us) iK iA iB xM xO xS FK FA FB FM inp lst out vs xR xL → wpX_doItem post (xic, xoc, nI N, xhf, nI fd, nI ll, xol, xea, fw_w true, nI i, xfo, nI sp, nI p, nI b, nI lim, nI us, iK, iA, iB, xM, xO, xS, FK, FA, FB, FM, inp, lst, out, vs, xR, xL) (nI 1) (FA i) (FB i) := by
    intro post H
    exact nm_r ev (br_f (by decide) (br_f (by decide) (br_f (by decide) (br_t (by decide) (br_f (by decide) ⟨vu, nm_r eu ⟨g - 1 + 1, rx_V12 (w := true) g5 glt gg H (g - 1) 1 (by omega) (by omega)⟩⟩)))))
  have HYin : ∀ post : Int32 → SY → Prop, wY_give_188 (fun r u => match u with | (yic, ysz, yfd, yls, ymd, ysa, ytk, ydp, yps, ybi, ysp, yus, ynx, yra, yrd, yK, yA, yB, zK, zA, zB, yin, ylst, yout, yvs, yO, yN, yS, yT) => post r (yic, ysz, yfd, yls, ymd, ysa, ytk, ydp, yps, ybi, ysp, yus, ynx, yra, yrd, yK, yA, yB, zK, zA, zB, yin, ylst, yout, yvs, yO, yN, yS, yT)) (nI 1) (nI i) (nI v) (lst us) (FA (nI i).toNatClampNeg) (nI g) (nI g) yic (nI N) (nI fd) (nI ll) ymd ysa ytk (nI dp) (nI p) (nI b) (nI sp) (nI us) ynx yra (fw_r true) iK iA iB FK FA FB inp lst out vs yO yN yS yT → wY_item_113 post (nI i) (nI 1) yic (nI N) (nI fd) (nI ll) ymd ysa ytk (nI dp) (nI p) (nI b) (nI sp) (nI us) ynx yra (fw_r true) iK iA iB FK FA FB inp lst out vs yO yN yS yT := by
    intro post H
    refine ⟨vi, nm_r ev' (br_f (by decide) (br_t (by decide) (br_f nu ⟨vu, nm_r eu ⟨vi, nm_e (br_f (by decide) (br_f (by decide) (br_t (by decide) ?_)))⟩⟩)))⟩
    exact ry_120 (w := true) g1 g5 glt gg (br_f (by decide) (br_t (by decide) H))
  by_cases h : p + g ≤ lim
  · have cX : nI g ≤ nI lim - nI p := by rw [esub]; exact nI_le (by omega) (by omega)
    refine Or.inr ⟨p + g, b, us + 1, ll, lst, fo (fi_B (lst us) p g) out p (p + g), upd vs v (lst us), h, hb, fun _ => by omega, hu, hll, fun post H => HXin _ (br_t cX ⟨g + 1, ?_⟩), fun post H => HYin _ (rE_1 (w := true) E h (br_f (by decide) (nm_r (nI_1 us) ⟨vv, nm_r (by rw [cv]) (br_f (by decide) (br_t (by decide) ⟨g + 1, ?_⟩))⟩)))⟩
    · have K := rw_VX (w := true) (post := fun r u => match u with | (xic, xoc, xfc, xhf, xil, xll, xol, xea, xwr, xcu, xfo, xsp, xpo, xbl, xli, xvu, iK, iA, iB, xM, xO, xS, FK, FA, FB, FM, inp, lst, out, vs, xR, xL) => post r (xic, xoc, xfc, xhf, xil, xll, xol, xea, xwr, xcu, xfo, xsp, xpo, xbl, xli, xvu, iK, iA, iB, xM, xO, xS, FK, FA, FB, FM, inp, lst, out, vs, xR, xL)) (out0 := out) (x := lst us) (v := nI v) g1 g5 (by omega) (rx_kw (w := true) hv H) g 0 (by omega)
      rw [Nat.add_zero p, fo_0] at K
      exact K
    · have K := rw_VY (w := true) (post := fun r u => match u with | (yic, ysz, yfd, yls, ymd, ysa, ytk, ydp, yps, ybi, ysp, yus, ynx, yra, yrd, yK, yA, yB, zK, zA, zB, yin, ylst, yout, yvs, yO, yN, yS, yT) => post r (yic, ysz, yfd, yls, ymd, ysa, ytk, ydp, yps, ybi, ysp, yus, ynx, yra, yrd, yK, yA, yB, zK, zA, zB, yin, ylst, yout, yvs, yO, yN, yS, yT)) (out0 := out) (x := lst us) g1 g5 (by omega) H g 0 (by omega)
      rw [Nat.add_zero p, fo_0] at K
      exact K
  · have cX : ¬ nI g ≤ nI lim - nI p := by rw [esub]; exact nI_ge (by omega) (by omega)
    exact Or.inl ⟨3, nI p, by decide, fun _ => rfl, fun post H => HXin _ (br_f cX H), fun post H => HYin _ (rE_0 (w := true) E hp (by omega) (by omega) (br_t rfl H))⟩
/-! BITS -/
theorem rwb_lock {v : Nat} {x : Int32} {yV : Nat → Int32} (hlim : lim ≤ 64) : ∀ (d q c : Nat) (out : Nat → Int32), d ≤ 16 → q ≤ lim → c ≤ 7 → (0 < c → 0 < q) → d ≤ c + 8 * (lim - q) →
    ∃ (q' c' : Nat) (out' : Nat → Int32), q' ≤ lim ∧ c' ≤ 7 ∧ (0 < c' → 0 < q') ∧ (∀ post : Int32 → SX → Prop, wpX_keepWritten (fun u => match u with | (xic, xoc, xfc, xhf, xil, xll, xol, xea, xwr, xcu, xfo, xsp, xpo, xbl, xli, xvu, iK, iA, iB, xM, xO, xS, FK, FA, FB, FM, inp, lst, out, vs, xR, xL) => post 0 (xic, xoc, xfc, xhf, xil, xll, xol, xea, xwr, xcu, xfo, xsp, xpo, xbl, xli, xvu, iK, iA, iB, xM, xO, xS, FK, FA, FB, FM, inp, lst, out, vs, xR, xL)) (xic, xoc, nI N, xhf, nI fd, nI ll, xol, xea, fw_w w, nI i, xfo, nI sp, nI q', nI c', nI lim, nI us, iK, iA, iB, xM, xO, xS, FK, FA, FB, FM, inp, lst, out', vs, xR, xL) x (nI v) → wX_writeBits_46 post (nI v) x xic xoc (nI N) xhf (nI fd) (nI ll) xol xea (fw_w w) (nI i) xfo (nI sp) (nI lim) (nI us) (d + 1) (nI d + (-1)) (nI q) (nI c) iK iA iB xM xO xS FK FA FB FM inp lst out vs xR xL) ∧ (∀ post : SY → Prop, post (yic, nI N, nI fd, nI ll, ymd, ysa, ytk, nI dp, nI q', nI c', nI sp, yus, ynx, yra, fw_r w, iK, iA, iB, FK, FA, FB, inp, lst, out', yV, yO, yN, yS, yT) → wY_giveBits_4 post x yic (nI N) (nI fd) (nI ll) ymd ysa ytk (nI dp) (nI sp) yus ynx yra (fw_r w) (d + 1) (nI d + (-1)) (nI q) (nI c) iK iA iB FK FA FB inp lst out yV yO yN yS yT) := by
  intro d
  induction d with
  | zero =>
    intro q c out hd16 hq hc hcq hd
    exact ⟨q, c, out, hq, hc, hcq, fun post H => br_t (by decide) H, fun post H => br_t (by decide) H⟩
  | succ d ih =>
    intro q c out hd16 hq hc hcq hd
    have ed : nI (d + 1) + (-1) = nI d := pk_m1 d
    have n0 : ¬ nI d < 0 := nI_pos (by omega)
    rw [ed]
    by_cases h0 : c = 0
    · subst h0
      have em : nI (q + 1) - 1 = nI q := nI_pred q
      have vm : vp_in (nI (q + 1) - 1) 64 := by rw [em]; exact vp_in_nI (by omega) (by omega)
      have cm : (nI (q + 1) - 1).toNatClampNeg = q := by rw [em]; exact nI_clamp (by omega)
      have vq : vp_in (nI q) 64 := vp_in_nI (by omega) (by omega)
      have cq : (nI q).toNatClampNeg = q := nI_clamp (by omega)
      obtain ⟨q', c', out', k1, k2, k3, HX, HY⟩ := ih (q + 1) 7 (upd (upd out q 0) q ((upd out q 0) q ||| (((x >>> (nI d &&& 31)) &&& 1) <<< (nI 7 &&& 31)))) (by omega) (by omega) (by omega) (fun _ => by omega) (by omega)
      exact ⟨q', c', out', k1, k2, k3, fun post H => br_f n0 (br_t (by decide) ⟨vq, nm_r (by rw [cq]) (nm_r (nI_1 q) (nm_r (e' := nI 7) (by decide) ⟨vm, vm, nm_r (by rw [cm]) (nm_e (HX post H))⟩))⟩), fun post H => br_f n0 (br_t (by decide) (nm_r (nI_1 q) ⟨vq, nm_r (by rw [cq]) (nm_r (e' := nI 7) (by decide) ⟨vm, vm, nm_r (by rw [cm]) (nm_e (HY post H))⟩)⟩))⟩
    · obtain ⟨c, rfl⟩ : ∃ e, c = e + 1 := ⟨c - 1, by omega⟩
      have hq0 := hcq (by omega)
      obtain ⟨q, rfl⟩ : ∃ e, q = e + 1 := ⟨q - 1, by omega⟩
      have em : nI (q + 1) - 1 = nI q := nI_pred q
      have vm : vp_in (nI (q + 1) - 1) 64 := by rw [em]; exact vp_in_nI (by omega) (by omega)
      have cm : (nI (q + 1) - 1).toNatClampNeg = q := by rw [em]; exact nI_clamp (by omega)
      have m0 : ¬ nI (c + 1) = 0 := nI_ne0 (by omega) (by omega)
      obtain ⟨q', c', out', k1, k2, k3, HX, HY⟩ := ih (q + 1) c (upd out q (out q ||| (((x >>> (nI d &&& 31)) &&& 1) <<< (nI c &&& 31)))) (by omega) (by omega) (by omega) (fun _ => by omega) (by omega)
      exact ⟨q', c', out', k1, k2, k3, fun post H => br_f n0 (br_f m0 (nm_r (nI_pred c) ⟨vm, vm, nm_r (by rw [cm]) (nm_e (HX post H))⟩)), fun post H => br_f n0 (br_f m0 (nm_r (nI_pred c) ⟨vm, vm, nm_r (by rw [cm]) (nm_e (HY post H))⟩))⟩
theorem rf_2w (E : fr_E FK xR xL yO yN N fd lim S i dp w) (hp : p ≤ lim) (hb : b ≤ 7) (hbp : 0 < b → 0 < p) (hus : us ≤ ll) (hll : ll ≤ 40) {a : Nat} (h1 : 1 ≤ a) (h16 : a ≤ 16) (ha : FA i = nI a) (hw : w = true) (hu : us < ll) : (∃ (r q : Int32), r ≠ 0 ∧ (w = true → q = nI p) ∧ (∀ post : Int32 → SX → Prop, post r (xic, xoc, nI N, xhf, nI fd, nI ll, xol, xea, fw_w w, nI i, xfo, nI sp, nI p, nI b, nI lim, nI us, iK, iA, iB, xM, xO, xS, FK, FA, FB, FM, inp, lst, out, vs, xR, xL) → wpX_doItem post (xic, xoc, nI N, xhf, nI fd, nI ll, xol, xea, fw_w w, nI i, xfo, nI sp, nI p, nI b, nI lim, nI us, iK, iA, iB, xM, xO, xS, FK, FA, FB, FM, inp, lst, out, vs, xR, xL) (nI 2) (FA i) (FB i)) ∧ (∀ post : Int32 → SY → Prop, post r (yic, nI N, nI fd, nI ll, ymd, ysa, ytk, nI dp, q, nI b, nI sp, nI us, ynx, yra, fw_r w, iK, iA, iB, FK, FA, FB, inp, lst, out, vs, yO, yN, yS, yT) → wY_item_113 post (nI i) (nI 2) yic (nI N) (nI fd) (nI ll) ymd ysa ytk (nI dp) (nI p) (nI b) (nI sp) (nI us) ynx yra (fw_r w) iK iA iB FK FA FB inp lst out vs yO yN yS yT)) ∨ (∃ (p' b' us' ll' : Nat) (lst' out' vs' : Nat → Int32), p' ≤ lim ∧ b' ≤ 7 ∧ (0 < b' → 0 < p') ∧ us' ≤ ll' ∧ ll' ≤ 40 ∧ (∀ post : Int32 → SX → Prop, post 0 (xic, xoc, nI N, xhf, nI fd, nI ll', xol, xea, fw_w w, nI i, xfo, nI sp, nI p', nI b', nI lim, nI us', iK, iA, iB, xM, xO, xS, FK, FA, FB, FM, inp, lst', out', vs', xR, xL) → wpX_doItem post (xic, xoc, nI N, xhf, nI fd, nI ll, xol, xea, fw_w w, nI i, xfo, nI sp, nI p, nI b, nI lim, nI us, iK, iA, iB, xM, xO, xS, FK, FA, FB, FM, inp, lst, out, vs, xR, xL) (nI 2) (FA i) (FB i)) ∧ (∀ post : Int32 → SY → Prop, post 0 (yic, nI N, nI fd, nI ll', ymd, ysa, ytk, nI dp, nI p', nI b', nI sp, nI us', ynx, yra, fw_r w, iK, iA, iB, FK, FA, FB, inp, lst', out', vs', yO, yN, yS, yT) → wY_item_113 post (nI i) (nI 2) yic (nI N) (nI fd) (nI ll) ymd ysa ytk (nI dp) (nI p) (nI b) (nI sp) (nI us) ynx yra (fw_r w) iK iA iB FK FA FB inp lst out vs yO yN yS yT)) := by
  obtain ⟨hi, hlim, ci, vi⟩ := rE_i E
  obtain ⟨v, hv, ev, vv, cv⟩ := rE_v (FB i)
  have ev' : FB (nI i).toNatClampNeg &&& 7 = nI v := by rw [ci]; exact ev
  have ea : FA (nI i).toNatClampNeg = nI a := by rw [ci]; exact ha
  have esub : nI lim - nI p = nI (lim - p) := pk_sub hp
  have f16 := fq_lt (b := b) h16
  have vu : vp_in (nI us) 40 := vp_in_nI (by omega) (by omega)
  have eu : lst (nI us).toNatClampNeg = lst us := by rw [nI_clamp (by omega)]
  have nu : ¬ nI us = nI ll := fun z => by
    have := (nI_eq (by omega) (by omega)).mp z
    omega
  have n32 : ¬ nI a = (32 : Int32) := fun z => by
    have := (nI_eq (a := a) (b := 32) (by omega) (by omega)).mp z
    omega
  have hfit := fb_fit (lst us) (n := a) (by omega)
  obtain ⟨g, g1, g5, glt, gg⟩ := fi_g (lst us)
  subst hw
  have HYin : ∀ post : Int32 → SY → Prop, (((lst us) >>> (nI a &&& 31)) = 0 → wY_give_120 (fun r u => match u with | (yic, ysz, yfd, yls, ymd, ysa, ytk, ydp, yps, ybi, ysp, yus, ynx, yra, yrd, yK, yA, yB, zK, zA, zB, yin, ylst, yout, yvs, yO, yN, yS, yT) => post r (yic, ysz, yfd, yls, ymd, ysa, ytk, ydp, yps, ybi, ysp, yus, ynx, yra, yrd, yK, yA, yB, zK, zA, zB, yin, ylst, yout, yvs, yO, yN, yS, yT)) (nI 2) (nI i) (nI v) (lst us) (nI a) yic (nI N) (nI fd) (nI ll) ymd ysa ytk (nI dp) (nI p) (nI b) (nI sp) (nI us) ynx yra (fw_r true) iK iA iB FK FA FB inp lst out vs yO yN yS yT) → (¬ ((lst us) >>> (nI a &&& 31)) = 0 → post 4 (yic, nI N, nI fd, nI ll, ymd, ysa, ytk, nI dp, nI p, nI b, nI sp, nI us, ynx, yra, fw_r true, iK, iA, iB, FK, FA, FB, inp, lst, out, vs, yO, yN, yS, yT)) → wY_item_113 post (nI i) (nI 2) yic (nI N) (nI fd) (nI ll) ymd ysa ytk (nI dp) (nI p) (nI b) (nI sp) (nI us) ynx yra (fw_r true) iK iA iB FK FA FB inp lst out vs yO yN yS yT := by
    intro post H1 H2
    exact ⟨vi, nm_r ev' (br_f (by decide) (br_t (by decide) (br_f nu ⟨vu, nm_r eu ⟨vi, nm_r ea (br_f (by decide) (br_f (by decide) (br_f (by decide) (br_f n32 (br_t rfl ⟨H1, fun z => br_t rfl (H2 z)⟩)))))⟩⟩)))⟩
  by_cases hz : ((lst us) >>> (nI a &&& 31)) = 0
  · have hz' := hfit.mpr hz
    by_cases h : fq a b ≤ lim - p
    · have cX : nI (fq a b) ≤ nI lim - nI p := by rw [esub]; exact nI_le h (by omega)
      obtain ⟨q', c', out', k1, k2, k3, HX, HY⟩ := rwb_lock (v := v) (x := lst us) (yV := upd vs v (lst us)) (yus := nI (us + 1)) hlim a p b out (by omega) hp hb hbp (fq_le h) (w := true) (i := i) (N := N) (fd := fd) (ll := ll) (us := us) (sp := sp) (dp := dp) (xic := xic) (xoc := xoc) (xhf := xhf) (xol := xol) (xea := xea) (xfo := xfo) (xS := xS) (xM := xM) (xO := xO) (FK := FK) (FM := FM) (xR := xR) (xL := xL) (iK := iK) (iA := iA) (iB := iB) (FA := FA) (FB := FB) (inp := inp) (lst := lst) (vs := vs) (yic := yic) (ymd := ymd) (ysa := ysa) (ytk := ytk) (ynx := ynx) (yra := yra) (yO := yO) (yN := yN) (yS := yS) (yT := yT)
      refine Or.inr ⟨q', c', us + 1, ll, lst, out', upd vs v (lst us), k1, k2, k3, hu, hll, fun post H => ?_, fun post H => HYin _ (fun _ => ry_120 (w := true) g1 g5 glt gg (br_f (by decide) (br_f (by decide) (ry_wt (w := true) h16 hb (rE_1 (w := true) E (by omega) (br_f (by decide) (nm_r (nI_1 us) ⟨vv, nm_r (by rw [cv]) (br_f (by decide) (br_f (by decide) ?_))⟩))))))) (fun y => absurd hz y)⟩
      · rw [ha]
        refine nm_r ev (br_f (by decide) (br_f (by decide) (br_f (by decide) (br_f (by decide) (br_t (by decide) (br_f (by decide) ⟨vu, nm_r eu (br_t hz' (rx_bt (w := true) h16 hb (br_t cX (nm_r (fy_s1 a) ⟨a + 1, HX _ ?_⟩))))⟩))))))
        exact rx_kw (w := true) hv H
      · exact nm_r (fy_s1 a) ⟨a + 1, HY _ H⟩
    · have cX : ¬ nI (fq a b) ≤ nI lim - nI p := by rw [esub]; exact nI_ge (by omega) (by omega)
      refine Or.inl ⟨3, nI p, by decide, fun _ => rfl, fun post H => ?_, fun post H => HYin _ (fun _ => ry_120 (w := true) g1 g5 glt gg (br_f (by decide) (br_f (by decide) (ry_wt (w := true) h16 hb (rE_0 (w := true) E hp (by omega) (by omega) (br_t rfl H)))))) (fun y => absurd hz y)⟩
      rw [ha]
      exact nm_r ev (br_f (by decide) (br_f (by decide) (br_f (by decide) (br_f (by decide) (br_t (by decide) (br_f (by decide) ⟨vu, nm_r eu (br_t hz' (rx_bt (w := true) h16 hb (br_f cX H)))⟩))))))
  · have hz' := fun y => hz (hfit.mp y)
    refine Or.inl ⟨4, nI p, by decide, fun _ => rfl, fun post H => ?_, fun post H => HYin _ (fun y => absurd y hz) (fun _ => H)⟩
    rw [ha]
    exact nm_r ev (br_f (by decide) (br_f (by decide) (br_f (by decide) (br_f (by decide) (br_t (by decide) (br_f (by decide) ⟨vu, nm_r eu (br_f hz' H)⟩))))))
end
