/-! items that change no stack: BYTE, SUM, ALIGN, BOUND, SET, ADD -/
def fr_E (FK xR xL yO yN : Nat → Int32) (N fd lim S i dp : Nat) (w : Bool) : Prop := fw_Wf FK N ∧ N ≤ 40 ∧ i < N ∧ fd ≤ 64 ∧ fw_R FK xR xL yO yN (fw_base w fd) lim S (fw_st FK i) ∧ dp = (fw_st FK i).length ∧ lim ≤ 64
def fw_o (w : Bool) (out : Nat → Int32) (p : Nat) (a : Int32) : Nat → Int32 := if w then upd out p a else out
def fs_sum (a : Int32) (f : Nat → Int32) : Nat → Int32
  | 0 => a
  | j + 1 => fs_sum a f j + f j
section
variable {xic xoc xfc xhf xil xll xol xea xwr xcu xfo xsp xpo xbl xli xvu yic ysz yfd yls ymd ysa ytk ydp yps ybi ysp yus ynx yra yrd : Int32} {iK iA iB xM xO xS FK FA FB FM inp lst out vs xR xL yO yN yS yT : Nat → Int32}
variable {N fd ll i sp p b lim us dp base S : Nat} {w : Bool}
theorem rE_1 {post : Int32 → Prop} {m : Nat} (E : fr_E FK xR xL yO yN N fd lim S i dp w) (h : p + m ≤ lim) (hp : post 1) : wpY_room post (yic, nI N, nI fd, nI ll, ymd, ysa, ytk, nI dp, nI p, nI b, nI sp, nI us, ynx, yra, fw_r w, iK, iA, iB, FK, FA, FB, inp, lst, out, vs, yO, yN, yS, yT) (nI m) := by
  obtain ⟨W, hN, hi, hfd, R, hd, hlim⟩ := E
  exact ry_room1 W hN hi hfd R hd hlim h hp
theorem rE_0 {post : Int32 → Prop} {m : Nat} (E : fr_E FK xR xL yO yN N fd lim S i dp w) (hpl : p ≤ lim) (hm : m < 2 ^ 31) (h : lim < p + m) (hp : post 0) : wpY_room post (yic, nI N, nI fd, nI ll, ymd, ysa, ytk, nI dp, nI p, nI b, nI sp, nI us, ynx, yra, fw_r w, iK, iA, iB, FK, FA, FB, inp, lst, out, vs, yO, yN, yS, yT) (nI m) := by
  obtain ⟨W, hN, hi, hfd, R, hd, hlim⟩ := E
  exact ry_room0 W hN hi hfd R hd hlim hpl hm h hp
theorem rE_i (E : fr_E FK xR xL yO yN N fd lim S i dp w) : i < 40 ∧ lim ≤ 64 ∧ (nI i).toNatClampNeg = i ∧ vp_in (nI i) 40 := by
  obtain ⟨W, hN, hi, hfd, R, hd, hlim⟩ := E
  exact ⟨by omega, hlim, nI_clamp (by omega), vp_in_nI (by omega) (by omega)⟩
theorem rE_v (x : Int32) : ∃ v : Nat, v < 8 ∧ x &&& 7 = nI v ∧ vp_in (nI v) 8 ∧ (nI v).toNatClampNeg = v := by
  obtain ⟨v, hv, ev⟩ := pk_andE x (m := 7) 3 (by decide)
  have hv8 : v < 8 := hv
  exact ⟨v, hv8, ev, vp_in_nI hv8 (by omega), nI_clamp (by omega)⟩
theorem rx_by3 {post : Int32 → SX → Prop} {a : Int32} (h : lim ≤ p) (hp : p ≤ 64) (H : post 3 (xic, xoc, nI N, xhf, nI fd, nI ll, xol, xea, fw_w w, nI i, xfo, nI sp, nI p, nI b, nI lim, nI us, iK, iA, iB, xM, xO, xS, FK, FA, FB, FM, inp, lst, out, vs, xR, xL)) : wpX_doByte post (xic, xoc, nI N, xhf, nI fd, nI ll, xol, xea, fw_w w, nI i, xfo, nI sp, nI p, nI b, nI lim, nI us, iK, iA, iB, xM, xO, xS, FK, FA, FB, FM, inp, lst, out, vs, xR, xL) a := br_f (nI_nlt h (by omega)) H
theorem rx_by5 {post : Int32 → SX → Prop} {a : Int32} (h : p < lim) (hl : lim ≤ 64) (hw : w = false) (hne : ¬ inp p = a) (H : post 5 (xic, xoc, nI N, xhf, nI fd, nI ll, xol, xea, fw_w w, nI i, xfo, nI sp, nI p, nI b, nI lim, nI us, iK, iA, iB, xM, xO, xS, FK, FA, FB, FM, inp, lst, out, vs, xR, xL)) : wpX_doByte post (xic, xoc, nI N, xhf, nI fd, nI ll, xol, xea, fw_w w, nI i, xfo, nI sp, nI p, nI b, nI lim, nI us, iK, iA, iB, xM, xO, xS, FK, FA, FB, FM, inp, lst, out, vs, xR, xL) a := by
  subst hw
  have cp : (nI p).toNatClampNeg = p := nI_clamp (by omega)
  exact br_t (nI_lt h (by omega)) (br_t rfl ⟨vp_in_nI (by omega) (by omega), br_f (by rw [cp]; exact hne) H⟩)
theorem rx_by0 {post : Int32 → SX → Prop} {a : Int32} (h : p < lim) (hl : lim ≤ 64) (he : w = false → inp p = a) (H : post 0 (xic, xoc, nI N, xhf, nI fd, nI ll, xol, xea, fw_w w, nI i, xfo, nI sp, nI (p + 1), nI b, nI lim, nI us, iK, iA, iB, xM, xO, xS, FK, FA, FB, FM, inp, lst, fw_o w out p a, vs, xR, xL)) : wpX_doByte post (xic, xoc, nI N, xhf, nI fd, nI ll, xol, xea, fw_w w, nI i, xfo, nI sp, nI p, nI b, nI lim, nI us, iK, iA, iB, xM, xO, xS, FK, FA, FB, FM, inp, lst, out, vs, xR, xL) a := by
  have cp : (nI p).toNatClampNeg = p := nI_clamp (by omega)
  have vp : vp_in (nI p) 64 := vp_in_nI (by omega) (by omega)
  cases w with
  | false => exact br_t (nI_lt h (by omega)) (br_t rfl ⟨vp, br_t (by rw [cp]; exact he rfl) (nm_r (nI_1 p) H)⟩)
  | true => exact br_t (nI_lt h (by omega)) (br_f (by decide) ⟨vp, nm_r (by rw [cp]; rfl) (nm_r (nI_1 p) H)⟩)
theorem ry_ex5 {post : Int32 → SY → Prop} {a e : Int32} (hp : p < 64) (hw : w = false) (hne : ¬ inp p = a) (H : post e (yic, nI N, nI fd, nI ll, ymd, ysa, ytk, nI dp, nI p, nI b, nI sp, nI us, ynx, yra, fw_r w, iK, iA, iB, FK, FA, FB, inp, lst, out, vs, yO, yN, yS, yT)) : wpY_exact post (yic, nI N, nI fd, nI ll, ymd, ysa, ytk, nI dp, nI p, nI b, nI sp, nI us, ynx, yra, fw_r w, iK, iA, iB, FK, FA, FB, inp, lst, out, vs, yO, yN, yS, yT) a e := by
  subst hw
  have cp : (nI p).toNatClampNeg = p := nI_clamp (by omega)
  exact br_f (by decide) ⟨vp_in_nI hp (by omega), br_f (by rw [cp]; exact hne) H⟩
theorem ry_ex0 {post : Int32 → SY → Prop} {a e : Int32} (hp : p < 64) (he : w = false → inp p = a) (H : post 0 (yic, nI N, nI fd, nI ll, ymd, ysa, ytk, nI dp, nI (p + 1), nI b, nI sp, nI us, ynx, yra, fw_r w, iK, iA, iB, FK, FA, FB, inp, lst, fw_o w out p a, vs, yO, yN, yS, yT)) : wpY_exact post (yic, nI N, nI fd, nI ll, ymd, ysa, ytk, nI dp, nI p, nI b, nI sp, nI us, ynx, yra, fw_r w, iK, iA, iB, FK, FA, FB, inp, lst, out, vs, yO, yN, yS, yT) a e := by
  have cp : (nI p).toNatClampNeg = p := nI_clamp (by omega)
  have vp : vp_in (nI p) 64 := vp_in_nI (by omega) (by omega)
  cases w with
  | false => exact br_f (by decide) ⟨vp, br_t (by rw [cp]; exact he rfl) (br_f (by decide) (nm_r (nI_1 p) H))⟩
  | true => exact br_t (by decide) (br_t (by decide) ⟨vp, nm_r (by rw [cp]; rfl) (nm_r (nI_1 p) H)⟩)
theorem rf_3 (E : fr_E FK xR xL yO yN N fd lim S i dp w) (hp : p ≤ lim) (hb : b ≤ 7) (hbp : 0 < b → 0 < p) (hus : us ≤ ll) (hll : ll ≤ 40) : (∃ (r q : Int32), r ≠ 0 ∧ (w = true → q = nI p) ∧ (∀ post : Int32 → SX → Prop, post r (xic, xoc, nI N, xhf, nI fd, nI ll, xol, xea, fw_w w, nI i, xfo, nI sp, nI p, nI b, nI lim, nI us, iK, iA, iB, xM, xO, xS, FK, FA, FB, FM, inp, lst, out, vs, xR, xL) → wpX_doItem post (xic, xoc, nI N, xhf, nI fd, nI ll, xol, xea, fw_w w, nI i, xfo, nI sp, nI p, nI b, nI lim, nI us, iK, iA, iB, xM, xO, xS, FK, FA, FB, FM, inp, lst, out, vs, xR, xL) (nI 3) (FA i) (FB i)) ∧ (∀ post : Int32 → SY → Prop, post r (yic, nI N, nI fd, nI ll, ymd, ysa, ytk, nI dp, q, nI b, nI sp, nI us, ynx, yra, fw_r w, iK, iA, iB, FK, FA, FB, inp, lst, out, vs, yO, yN, yS, yT) → wY_item_113 post (nI i) (nI 3) yic (nI N) (nI fd) (nI ll) ymd ysa ytk (nI dp) (nI p) (nI b) (nI sp) (nI us) ynx yra (fw_r w) iK iA iB FK FA FB inp lst out vs yO yN yS yT)) ∨ (∃ (p' b' us' ll' : Nat) (lst' out' vs' : Nat → Int32), p' ≤ lim ∧ b' ≤ 7 ∧ (0 < b' → 0 < p') ∧ us' ≤ ll' ∧ ll' ≤ 40 ∧ (∀ post : Int32 → SX → Prop, post 0 (xic, xoc, nI N, xhf, nI fd, nI ll', xol, xea, fw_w w, nI i, xfo, nI sp, nI p', nI b', nI lim, nI us', iK, iA, iB, xM, xO, xS, FK, FA, FB, FM, inp, lst', out', vs', xR, xL) → wpX_doItem post (xic, xoc, nI N, xhf, nI fd, nI ll, xol, xea, fw_w w, nI i, xfo, nI sp, nI p, nI b, nI lim, nI us, iK, iA, iB, xM, xO, xS, FK, FA, FB, FM, inp, lst, out, vs, xR, xL) (nI 3) (FA i) (FB i)) ∧ (∀ post : Int32 → SY → Prop, post 0 (yic, nI N, nI fd, nI ll', ymd, ysa, ytk, nI dp, nI p', nI b', nI sp, nI us', ynx, yra, fw_r w, iK, iA, iB, FK, FA, FB, inp, lst', out', vs', yO, yN, yS, yT) → wY_item_113 post (nI i) (nI 3) yic (nI N) (nI fd) (nI ll) ymd ysa ytk (nI dp) (nI p) (nI b) (nI sp) (nI us) ynx yra (fw_r w) iK iA iB FK FA FB inp lst out vs yO yN yS yT)) := by
  obtain ⟨hi, hlim, ci, vi⟩ := rE_i E
  obtain ⟨v, hv, ev, vv, cv⟩ := rE_v (FB i)
  have ev' : FB (nI i).toNatClampNeg &&& 7 = nI v := by rw [ci]; exact ev
  by_cases h : p < lim
  · by_cases he : w = false → inp p = FA i
    · refine Or.inr ⟨p + 1, b, us, ll, lst, fw_o w out p (FA i), vs, h, hb, fun _ => by omega, hus, hll, fun post H => nm_r ev (br_f (by decide) (br_f (by decide) (br_f (by decide) (br_f (by decide) (br_f (by decide) (br_t (by decide) (rx_by0 h hlim he H))))))), fun post H => ⟨vi, nm_r ev' (br_t (by decide) (br_f (by decide) (br_t (by decide) ⟨vi, ?_⟩)))⟩⟩
      rw [ci]
      exact br_f (by decide) (br_f (by decide) (br_t (by decide) (rE_1 (m := 1) E h (br_f (by decide) (ry_ex0 (by omega) he H)))))
    · have hw : w = false := by
        cases w with
        | false => rfl
        | true => exact absurd (fun z => absurd z (by decide)) he
      have hne : ¬ inp p = FA i := fun z => he (fun _ => z)
      refine Or.inl ⟨5, nI p, by decide, fun _ => rfl, fun post H => nm_r ev (br_f (by decide) (br_f (by decide) (br_f (by decide) (br_f (by decide) (br_f (by decide) (br_t (by decide) (rx_by5 h hlim hw hne H))))))), fun post H => ⟨vi, nm_r ev' (br_t (by decide) (br_f (by decide) (br_t (by decide) ⟨vi, ?_⟩)))⟩⟩
      rw [ci]
      exact br_f (by decide) (br_f (by decide) (br_t (by decide) (rE_1 (m := 1) E h (br_f (by decide) (ry_ex5 (by omega) hw hne H)))))
  · refine Or.inl ⟨3, nI p, by decide, fun _ => rfl, fun post H => nm_r ev (br_f (by decide) (br_f (by decide) (br_f (by decide) (br_f (by decide) (br_f (by decide) (br_t (by decide) (rx_by3 (by omega) (by omega) H))))))), fun post H => ⟨vi, nm_r ev' (br_t (by decide) (br_f (by decide) (br_t (by decide) ⟨vi, ?_⟩)))⟩⟩
    rw [ci]
    exact br_f (by decide) (br_f (by decide) (br_t (by decide) (rE_0 (m := 1) E hp (by omega) (by omega) (br_t rfl H))))
theorem rx_sumI {post : Int32 → Prop} {a : Int32} (hp : p ≤ 64) (H : post (fs_sum a inp p &&& 255)) : ∀ d j : Nat, j + d = p → wX_sumUp__input_5 post xic xoc (nI N) xhf (nI fd) (nI ll) xol xea (fw_w w) (nI i) xfo (nI sp) (nI p) (nI b) (nI lim) (nI us) iK iA iB xM xO xS FK FA FB FM inp lst out vs xR xL (d + 1) (fs_sum a inp j) (nI j) := by
  intro d
  induction d with
  | zero =>
    intro j hj
    have e : j = p := by omega
    rw [e]
    exact br_t (nI_le (by omega) (by omega)) H
  | succ d ih =>
    intro j hj
    have cj : (nI j).toNatClampNeg = j := nI_clamp (by omega)
    exact br_f (nI_ge (by omega) (by omega)) ⟨vp_in_nI (by omega) (by omega), nm_r (e' := fs_sum a inp (j + 1)) (by rw [cj]; rfl) (nm_r (nI_1 j) (ih (j + 1) (by omega)))⟩
theorem rx_sumO {post : Int32 → Prop} {a : Int32} (hp : p ≤ 64) (H : post (fs_sum a out p &&& 255)) : ∀ d j : Nat, j + d = p → wX_sumUp__output_5 post xic xoc (nI N) xhf (nI fd) (nI ll) xol xea (fw_w w) (nI i) xfo (nI sp) (nI p) (nI b) (nI lim) (nI us) iK iA iB xM xO xS FK FA FB FM inp lst out vs xR xL (d + 1) (fs_sum a out j) (nI j) := by
  intro d
  induction d with
  | zero =>
    intro j hj
    have e : j = p := by omega
    rw [e]
    exact br_t (nI_le (by omega) (by omega)) H
  | succ d ih =>
    intro j hj
    have cj : (nI j).toNatClampNeg = j := nI_clamp (by omega)
    exact br_f (nI_ge (by omega) (by omega)) ⟨vp_in_nI (by omega) (by omega), nm_r (e' := fs_sum a out (j + 1)) (by rw [cj]; rfl) (nm_r (nI_1 j) (ih (j + 1) (by omega)))⟩
def fs_f (w : Bool) (inp out : Nat → Int32) : Nat → Int32 := if w then out else inp
theorem ry_sum {post : Int32 → SY → Prop} {a : Int32} (hp : p ≤ 64) (H : wpY_exact (fun r u => match u with | (yic, ysz, yfd, yls, ymd, ysa, ytk, ydp, yps, ybi, ysp, yus, ynx, yra, yrd, yK, yA, yB, zK, zA, zB, yin, ylst, yout, yvs, yO, yN, yS, yT) => post r (yic, ysz, yfd, yls, ymd, ysa, ytk, ydp, yps, ybi, ysp, yus, ynx, yra, yrd, yK, yA, yB, zK, zA, zB, yin, ylst, yout, yvs, yO, yN, yS, yT)) (yic, nI N, nI fd, nI ll, ymd, ysa, ytk, nI dp, nI p, nI b, nI sp, nI us, ynx, yra, fw_r w, iK, iA, iB, FK, FA, FB, inp, lst, out, vs, yO, yN, yS, yT) (fs_sum a (fs_f w inp out) p &&& 255) 5) : ∀ d j : Nat, j + d = p → wY_plain_83 post yic (nI N) (nI fd) (nI ll) ymd ysa ytk (nI dp) (nI p) (nI b) (nI sp) (nI us) ynx yra (fw_r w) iK iA iB FK FA FB inp lst out vs yO yN yS yT (d + 1) (fs_sum a (fs_f w inp out) j) (nI j) := by
  intro d
  induction d with
  | zero =>
    intro j hj
    have e : j = p := by omega
    rw [e]
    exact br_t (nI_le (by omega) (by omega)) H
  | succ d ih =>
    intro j hj
    have cj : (nI j).toNatClampNeg = j := nI_clamp (by omega)
    have vj : vp_in (nI j) 64 := vp_in_nI (by omega) (by omega)
    refine br_f (nI_ge (by omega) (by omega)) ?_
    have K := nm_r (P := fun x => ∀ y, y = nI j + 1 → wY_plain_83 post yic (nI N) (nI fd) (nI ll) ymd ysa ytk (nI dp) (nI p) (nI b) (nI sp) (nI us) ynx yra (fw_r w) iK iA iB FK FA FB inp lst out vs yO yN yS yT (d + 1) x y) (e := fs_sum a (fs_f w inp out) j + fs_f w inp out j) (e' := fs_sum a (fs_f w inp out) (j + 1)) rfl (nm_r (nI_1 j) (ih (j + 1) (by omega)))
    cases w with
    | false => refine br_f (by decide) ⟨vj, ?_⟩; rw [cj]; exact K
    | true => refine br_t (by decide) ⟨vj, ?_⟩; rw [cj]; exact K
theorem rf_7 (E : fr_E FK xR xL yO yN N fd lim S i dp w) (hp : p ≤ lim) (hb : b ≤ 7) (hbp : 0 < b → 0 < p) (hus : us ≤ ll) (hll : ll ≤ 40) : (∃ (r q : Int32), r ≠ 0 ∧ (w = true → q = nI p) ∧ (∀ post : Int32 → SX → Prop, post r (xic, xoc, nI N, xhf, nI fd, nI ll, xol, xea, fw_w w, nI i, xfo, nI sp, nI p, nI b, nI lim, nI us, iK, iA, iB, xM, xO, xS, FK, FA, FB, FM, inp, lst, out, vs, xR, xL) → wpX_doItem post (xic, xoc, nI N, xhf, nI fd, nI ll, xol, xea, fw_w w, nI i, xfo, nI sp, nI p, nI b, nI lim, nI us, iK, iA, iB, xM, xO, xS, FK, FA, FB, FM, inp, lst, out, vs, xR, xL) (nI 7) (FA i) (FB i)) ∧ (∀ post : Int32 → SY → Prop, post r (yic, nI N, nI fd, nI ll, ymd, ysa, ytk, nI dp, q, nI b, nI sp, nI us, ynx, yra, fw_r w, iK, iA, iB, FK, FA, FB, inp, lst, out, vs, yO, yN, yS, yT) → wY_item_113 post (nI i) (nI 7) yic (nI N) (nI fd) (nI ll) ymd ysa ytk (nI dp) (nI p) (nI b) (nI sp) (nI us) ynx yra (fw_r w) iK iA iB FK FA FB inp lst out vs yO yN yS yT)) ∨ (∃ (p' b' us' ll' : Nat) (lst' out' vs' : Nat → Int32), p' ≤ lim ∧ b' ≤ 7 ∧ (0 < b' → 0 < p') ∧ us' ≤ ll' ∧ ll' ≤ 40 ∧ (∀ post : Int32 → SX → Prop, post 0 (xic, xoc, nI N, xhf, nI fd, nI ll', xol, xea, fw_w w, nI i, xfo, nI sp, nI p', nI b', nI lim, nI us', iK, iA, iB, xM, xO, xS, FK, FA, FB, FM, inp, lst', out', vs', xR, xL) → wpX_doItem post (xic, xoc, nI N, xhf, nI fd, nI ll, xol, xea, fw_w w, nI i, xfo, nI sp, nI p, nI b, nI lim, nI us, iK, iA, iB, xM, xO, xS, FK, FA, FB, FM, inp, lst, out, vs, xR, xL) (nI 7) (FA i) (FB i)) ∧ (∀ post : Int32 → SY → Prop, post 0 (yic, nI N, nI fd, nI ll', ymd, ysa, ytk, nI dp, nI p', nI b', nI sp, nI us', ynx, yra, fw_r w, iK, iA, iB, FK, FA, FB, inp, lst', out', vs', yO, yN, yS, yT) → wY_item_113 post (nI i) (nI 7) yic (nI N) (nI fd) (nI ll) ymd ysa ytk (nI dp) (nI p) (nI b) (nI sp) (nI us) ynx yra (fw_r w) iK iA iB FK FA FB inp lst out vs yO yN yS yT)) := by
  obtain ⟨hi, hlim, ci, vi⟩ := rE_i E
  obtain ⟨v, hv, ev, vv, cv⟩ := rE_v (FB i)
  have ev' : FB (nI i).toNatClampNeg &&& 7 = nI v := by rw [ci]; exact ev
  have HX : ∀ post : Int32 → SX → Prop, wpX_doByte (fun r u => match u with | (xic, xoc, xfc, xhf, xil, xll, xol, xea, xwr, xcu, xfo, xsp, xpo, xbl, xli, xvu, iK, iA, iB, xM, xO, xS, FK, FA, FB, FM, inp, lst, out, vs, xR, xL) => post r (xic, xoc, xfc, xhf, xil, xll, xol, xea, xwr, xcu, xfo, xsp, xpo, xbl, xli, xvu, iK, iA, iB, xM, xO, xS, FK, FA, FB, FM, inp, lst, out, vs, xR, xL)) (xic, xoc, nI N, xhf, nI fd, nI ll, xol, xea, fw_w w, nI i, xfo, nI sp, nI p, nI b, nI lim, nI us, iK, iA, iB, xM, xO, xS, FK, FA, FB, FM, inp, lst, out, vs, xR, xL) (fs_sum (FA i) (fs_f w inp out) p &&& 255) → wpX_doItem post (xic, xoc, nI N, xhf, nI fd, nI ll, xol, xea, fw_w w, nI i, xfo, nI sp, nI p, nI b, nI lim, nI us, iK, iA, iB, xM, xO, xS, FK, FA, FB, FM, inp, lst, out, vs, xR, xL) (nI 7) (FA i) (FB i) := by
    intro post H
    cases w with
    | false => exact nm_r ev (br_f (by decide) (br_f (by decide) (br_f (by decide) (br_f (by decide) (br_f (by decide) (br_f (by decide) (br_f (by decide) (br_f (by decide) (br_f (by decide) (br_t (by decide) (br_t rfl ⟨p + 1, rx_sumI (by omega) H p 0 (by omega)⟩)))))))))))
    | true => exact nm_r ev (br_f (by decide) (br_f (by decide) (br_f (by decide) (br_f (by decide) (br_f (by decide) (br_f (by decide) (br_f (by decide) (br_f (by decide) (br_f (by decide) (br_t (by decide) (br_f (by decide) ⟨p + 1, rx_sumO (by omega) H p 0 (by omega)⟩)))))))))))
  by_cases h : p < lim
  · have HY : ∀ post : Int32 → SY → Prop, wpY_exact (fun r u => match u with | (yic, ysz, yfd, yls, ymd, ysa, ytk, ydp, yps, ybi, ysp, yus, ynx, yra, yrd, yK, yA, yB, zK, zA, zB, yin, ylst, yout, yvs, yO, yN, yS, yT) => post r (yic, ysz, yfd, yls, ymd, ysa, ytk, ydp, yps, ybi, ysp, yus, ynx, yra, yrd, yK, yA, yB, zK, zA, zB, yin, ylst, yout, yvs, yO, yN, yS, yT)) (yic, nI N, nI fd, nI ll, ymd, ysa, ytk, nI dp, nI p, nI b, nI sp, nI us, ynx, yra, fw_r w, iK, iA, iB, FK, FA, FB, inp, lst, out, vs, yO, yN, yS, yT) (fs_sum (FA i) (fs_f w inp out) p &&& 255) 5 → wY_item_113 post (nI i) (nI 7) yic (nI N) (nI fd) (nI ll) ymd ysa ytk (nI dp) (nI p) (nI b) (nI sp) (nI us) ynx yra (fw_r w) iK iA iB FK FA FB inp lst out vs yO yN yS yT := by
      intro post H
      refine ⟨vi, nm_r ev' (br_t (by decide) (br_t (by decide) ⟨vi, ?_⟩))⟩
      rw [ci]
      exact br_f (by decide) (br_f (by decide) (br_f (by decide) (br_f (by decide) (br_f (by decide) (br_f (by decide) (br_t (by decide) (rE_1 (m := 1) E h (br_f (by decide) ⟨p + 1, ry_sum (by omega) H p 0 (by omega)⟩))))))))
    by_cases he : w = false → inp p = fs_sum (FA i) (fs_f w inp out) p &&& 255
    · exact Or.inr ⟨p + 1, b, us, ll, lst, fw_o w out p (fs_sum (FA i) (fs_f w inp out) p &&& 255), vs, h, hb, fun _ => by omega, hus, hll, fun post H => HX _ (rx_by0 h hlim he H), fun post H => HY _ (ry_ex0 (by omega) he H)⟩
    · have hw : w = false := by
        cases w with
        | false => rfl
        | true => exact absurd (fun z => absurd z (by decide)) he
      have hne : ¬ inp p = fs_sum (FA i) (fs_f w inp out) p &&& 255 := fun z => he (fun _ => z)
      exact Or.inl ⟨5, nI p, by decide, fun _ => rfl, fun post H => HX _ (rx_by5 h hlim hw hne H), fun post H => HY _ (ry_ex5 (by omega) hw hne H)⟩
  · refine Or.inl ⟨3, nI p, by decide, fun _ => rfl, fun post H => HX _ (rx_by3 (by omega) (by omega) H), fun post H => ⟨vi, nm_r ev' (br_t (by decide) (br_t (by decide) ⟨vi, ?_⟩))⟩⟩
    rw [ci]
    exact br_f (by decide) (br_f (by decide) (br_f (by decide) (br_f (by decide) (br_f (by decide) (br_f (by decide) (br_t (by decide) (rE_0 (m := 1) E hp (by omega) (by omega) (br_t rfl H))))))))
theorem rf_9 (E : fr_E FK xR xL yO yN N fd lim S i dp w) (hp : p ≤ lim) (hb : b ≤ 7) (hbp : 0 < b → 0 < p) (hus : us ≤ ll) (hll : ll ≤ 40) : (∃ (r q : Int32), r ≠ 0 ∧ (w = true → q = nI p) ∧ (∀ post : Int32 → SX → Prop, post r (xic, xoc, nI N, xhf, nI fd, nI ll, xol, xea, fw_w w, nI i, xfo, nI sp, nI p, nI b, nI lim, nI us, iK, iA, iB, xM, xO, xS, FK, FA, FB, FM, inp, lst, out, vs, xR, xL) → wpX_doItem post (xic, xoc, nI N, xhf, nI fd, nI ll, xol, xea, fw_w w, nI i, xfo, nI sp, nI p, nI b, nI lim, nI us, iK, iA, iB, xM, xO, xS, FK, FA, FB, FM, inp, lst, out, vs, xR, xL) (nI 9) (FA i) (FB i)) ∧ (∀ post : Int32 → SY → Prop, post r (yic, nI N, nI fd, nI ll, ymd, ysa, ytk, nI dp, q, nI b, nI sp, nI us, ynx, yra, fw_r w, iK, iA, iB, FK, FA, FB, inp, lst, out, vs, yO, yN, yS, yT) → wY_item_113 post (nI i) (nI 9) yic (nI N) (nI fd) (nI ll) ymd ysa ytk (nI dp) (nI p) (nI b) (nI sp) (nI us) ynx yra (fw_r w) iK iA iB FK FA FB inp lst out vs yO yN yS yT)) ∨ (∃ (p' b' us' ll' : Nat) (lst' out' vs' : Nat → Int32), p' ≤ lim ∧ b' ≤ 7 ∧ (0 < b' → 0 < p') ∧ us' ≤ ll' ∧ ll' ≤ 40 ∧ (∀ post : Int32 → SX → Prop, post 0 (xic, xoc, nI N, xhf, nI fd, nI ll', xol, xea, fw_w w, nI i, xfo, nI sp, nI p', nI b', nI lim, nI us', iK, iA, iB, xM, xO, xS, FK, FA, FB, FM, inp, lst', out', vs', xR, xL) → wpX_doItem post (xic, xoc, nI N, xhf, nI fd, nI ll, xol, xea, fw_w w, nI i, xfo, nI sp, nI p, nI b, nI lim, nI us, iK, iA, iB, xM, xO, xS, FK, FA, FB, FM, inp, lst, out, vs, xR, xL) (nI 9) (FA i) (FB i)) ∧ (∀ post : Int32 → SY → Prop, post 0 (yic, nI N, nI fd, nI ll', ymd, ysa, ytk, nI dp, nI p', nI b', nI sp, nI us', ynx, yra, fw_r w, iK, iA, iB, FK, FA, FB, inp, lst', out', vs', yO, yN, yS, yT) → wY_item_113 post (nI i) (nI 9) yic (nI N) (nI fd) (nI ll) ymd ysa ytk (nI dp) (nI p) (nI b) (nI sp) (nI us) ynx yra (fw_r w) iK iA iB FK FA FB inp lst out vs yO yN yS yT)) := by
  obtain ⟨hi, hlim, ci, vi⟩ := rE_i E
  obtain ⟨v, hv, ev, vv, cv⟩ := rE_v (FB i)
  have ev' : FB (nI i).toNatClampNeg &&& 7 = nI v := by rw [ci]; exact ev
  have HY : ∀ post : Int32 → SY → Prop, ((fp_in (vs v) 0 (FA i) = 0 → post 4 (yic, nI N, nI fd, nI ll, ymd, ysa, ytk, nI dp, nI p, nI b, nI sp, nI us, ynx, yra, fw_r w, iK, iA, iB, FK, FA, FB, inp, lst, out, vs, yO, yN, yS, yT)) ∧ (¬ fp_in (vs v) 0 (FA i) = 0 → post 0 (yic, nI N, nI fd, nI ll, ymd, ysa, ytk, nI dp, nI p, nI b, nI sp, nI us, ynx, yra, fw_r w, iK, iA, iB, FK, FA, FB, inp, lst, out, vs, yO, yN, yS, yT))) → wY_item_113 post (nI i) (nI 9) yic (nI N) (nI fd) (nI ll) ymd ysa ytk (nI dp) (nI p) (nI b) (nI sp) (nI us) ynx yra (fw_r w) iK iA iB FK FA FB inp lst out vs yO yN yS yT := by
    intro post H
    refine ⟨vi, nm_r ev' (br_t (by decide) (br_t (by decide) ⟨vi, ?_⟩))⟩
    rw [ci]
    refine br_f (by decide) (br_f (by decide) (br_f (by decide) (br_f (by decide) (br_f (by decide) (br_f (by decide) (br_f (by decide) (br_f (by decide) (br_t (by decide) ⟨vv, ?_⟩))))))))
    rw [cv]
    exact fp_w H
  have HX : ∀ post : Int32 → SX → Prop, ((vs v < 0 → post 4 (xic, xoc, nI N, xhf, nI fd, nI ll, xol, xea, fw_w w, nI i, xfo, nI sp, nI p, nI b, nI lim, nI us, iK, iA, iB, xM, xO, xS, FK, FA, FB, FM, inp, lst, out, vs, xR, xL)) ∧ (¬ vs v < 0 → ((FA i < vs v → post 4 (xic, xoc, nI N, xhf, nI fd, nI ll, xol, xea, fw_w w, nI i, xfo, nI sp, nI p, nI b, nI lim, nI us, iK, iA, iB, xM, xO, xS, FK, FA, FB, FM, inp, lst, out, vs, xR, xL)) ∧ (¬ FA i < vs v → post 0 (xic, xoc, nI N, xhf, nI fd, nI ll, xol, xea, fw_w w, nI i, xfo, nI sp, nI p, nI b, nI lim, nI us, iK, iA, iB, xM, xO, xS, FK, FA, FB, FM, inp, lst, out, vs, xR, xL))))) → wpX_doItem post (xic, xoc, nI N, xhf, nI fd, nI ll, xol, xea, fw_w w, nI i, xfo, nI sp, nI p, nI b, nI lim, nI us, iK, iA, iB, xM, xO, xS, FK, FA, FB, FM, inp, lst, out, vs, xR, xL) (nI 9) (FA i) (FB i) := by
    intro post H
    refine nm_r ev (br_f (by decide) (br_f (by decide) (br_f (by decide) (br_f (by decide) (br_f (by decide) (br_f (by decide) (br_f (by decide) (br_f (by decide) (br_f (by decide) (br_f (by decide) (br_f (by decide) (br_t (by decide) (⟨vv, ?_⟩)))))))))))))
    rw [cv]
    exact ⟨H.1, fun z => ⟨vv, H.2 z⟩⟩
  by_cases h1 : vs v < 0
  · have e : fp_in (vs v) 0 (FA i) = 0 := by unfold fp_in; rw [if_pos h1]
    exact Or.inl ⟨4, nI p, by decide, fun _ => rfl, fun post H => HX _ (br_t h1 H), fun post H => HY _ (br_t e H)⟩
  · by_cases h2 : FA i < vs v
    · have e : fp_in (vs v) 0 (FA i) = 0 := by unfold fp_in; rw [if_neg h1, if_pos h2]
      exact Or.inl ⟨4, nI p, by decide, fun _ => rfl, fun post H => HX _ (br_f h1 (br_t h2 H)), fun post H => HY _ (br_t e H)⟩
    · have e : ¬ fp_in (vs v) 0 (FA i) = 0 := by unfold fp_in; rw [if_neg h1, if_neg h2]; decide
      exact Or.inr ⟨p, b, us, ll, lst, out, vs, hp, hb, hbp, hus, hll, fun post H => HX _ (br_f h1 (br_f h2 H)), fun post H => HY _ (br_f e H)⟩
theorem rf_10 (E : fr_E FK xR xL yO yN N fd lim S i dp w) (hp : p ≤ lim) (hb : b ≤ 7) (hbp : 0 < b → 0 < p) (hus : us ≤ ll) (hll : ll ≤ 40) : (∃ (r q : Int32), r ≠ 0 ∧ (w = true → q = nI p) ∧ (∀ post : Int32 → SX → Prop, post r (xic, xoc, nI N, xhf, nI fd, nI ll, xol, xea, fw_w w, nI i, xfo, nI sp, nI p, nI b, nI lim, nI us, iK, iA, iB, xM, xO, xS, FK, FA, FB, FM, inp, lst, out, vs, xR, xL) → wpX_doItem post (xic, xoc, nI N, xhf, nI fd, nI ll, xol, xea, fw_w w, nI i, xfo, nI sp, nI p, nI b, nI lim, nI us, iK, iA, iB, xM, xO, xS, FK, FA, FB, FM, inp, lst, out, vs, xR, xL) (nI 10) (FA i) (FB i)) ∧ (∀ post : Int32 → SY → Prop, post r (yic, nI N, nI fd, nI ll, ymd, ysa, ytk, nI dp, q, nI b, nI sp, nI us, ynx, yra, fw_r w, iK, iA, iB, FK, FA, FB, inp, lst, out, vs, yO, yN, yS, yT) → wY_item_113 post (nI i) (nI 10) yic (nI N) (nI fd) (nI ll) ymd ysa ytk (nI dp) (nI p) (nI b) (nI sp) (nI us) ynx yra (fw_r w) iK iA iB FK FA FB inp lst out vs yO yN yS yT)) ∨ (∃ (p' b' us' ll' : Nat) (lst' out' vs' : Nat → Int32), p' ≤ lim ∧ b' ≤ 7 ∧ (0 < b' → 0 < p') ∧ us' ≤ ll' ∧ ll' ≤ 40 ∧ (∀ post : Int32 → SX → Prop, post 0 (xic, xoc, nI N, xhf, nI fd, nI ll', xol, xea, fw_w w, nI i, xfo, nI sp, nI p', nI b', nI lim, nI us', iK, iA, iB, xM, xO, xS, FK, FA, FB, FM, inp, lst', out', vs', xR, xL) → wpX_doItem post (xic, xoc, nI N, xhf, nI fd, nI ll, xol, xea, fw_w w, nI i, xfo, nI sp, nI p, nI b, nI lim, nI us, iK, iA, iB, xM, xO, xS, FK, FA, FB, FM, inp, lst, out, vs, xR, xL) (nI 10) (FA i) (FB i)) ∧ (∀ post : Int32 → SY → Prop, post 0 (yic, nI N, nI fd, nI ll', ymd, ysa, ytk, nI dp, nI p', nI b', nI sp, nI us', ynx, yra, fw_r w, iK, iA, iB, FK, FA, FB, inp, lst', out', vs', yO, yN, yS, yT) → wY_item_113 post (nI i) (nI 10) yic (nI N) (nI fd) (nI ll) ymd ysa ytk (nI dp) (nI p) (nI b) (nI sp) (nI us) ynx yra (fw_r w) iK iA iB FK FA FB inp lst out vs yO yN yS yT)) := by
  obtain ⟨hi, hlim, ci, vi⟩ := rE_i E
  obtain ⟨v, hv, ev, vv, cv⟩ := rE_v (FB i)
  have ev' : FB (nI i).toNatClampNeg &&& 7 = nI v := by rw [ci]; exact ev
  refine Or.inr ⟨p, b, us, ll, lst, out, upd vs v (FA i), hp, hb, hbp, hus, hll, fun post H => nm_r ev (br_f (by decide) (br_f (by decide) (br_f (by decide) (br_f (by decide) (br_f (by decide) (br_f (by decide) (br_f (by decide) (br_f (by decide) (br_f (by decide) (br_f (by decide) (br_f (by decide) (br_f (by decide) (br_t (by decide) (⟨vv, nm_r (by rw [cv]) H⟩)))))))))))))), fun post H => ⟨vi, nm_r ev' (br_t (by decide) (br_t (by decide) ⟨vi, ?_⟩))⟩⟩
  rw [ci]
  exact br_f (by decide) (br_f (by decide) (br_f (by decide) (br_f (by decide) (br_f (by decide) (br_f (by decide) (br_f (by decide) (br_f (by decide) (br_f (by decide) (br_t (by decide) ⟨vv, nm_r (by rw [cv]) H⟩)))))))))
theorem rf_11 (E : fr_E FK xR xL yO yN N fd lim S i dp w) (hp : p ≤ lim) (hb : b ≤ 7) (hbp : 0 < b → 0 < p) (hus : us ≤ ll) (hll : ll ≤ 40) : (∃ (r q : Int32), r ≠ 0 ∧ (w = true → q = nI p) ∧ (∀ post : Int32 → SX → Prop, post r (xic, xoc, nI N, xhf, nI fd, nI ll, xol, xea, fw_w w, nI i, xfo, nI sp, nI p, nI b, nI lim, nI us, iK, iA, iB, xM, xO, xS, FK, FA, FB, FM, inp, lst, out, vs, xR, xL) → wpX_doItem post (xic, xoc, nI N, xhf, nI fd, nI ll, xol, xea, fw_w w, nI i, xfo, nI sp, nI p, nI b, nI lim, nI us, iK, iA, iB, xM, xO, xS, FK, FA, FB, FM, inp, lst, out, vs, xR, xL) (nI 11) (FA i) (FB i)) ∧ (∀ post : Int32 → SY → Prop, post r (yic, nI N, nI fd, nI ll, ymd, ysa, ytk, nI dp, q, nI b, nI sp, nI us, ynx, yra, fw_r w, iK, iA, iB, FK, FA, FB, inp, lst, out, vs, yO, yN, yS, yT) → wY_item_113 post (nI i) (nI 11) yic (nI N) (nI fd) (nI ll) ymd ysa ytk (nI dp) (nI p) (nI b) (nI sp) (nI us) ynx yra (fw_r w) iK iA iB FK FA FB inp lst out vs yO yN yS yT)) ∨ (∃ (p' b' us' ll' : Nat) (lst' out' vs' : Nat → Int32), p' ≤ lim ∧ b' ≤ 7 ∧ (0 < b' → 0 < p') ∧ us' ≤ ll' ∧ ll' ≤ 40 ∧ (∀ post : Int32 → SX → Prop, post 0 (xic, xoc, nI N, xhf, nI fd, nI ll', xol, xea, fw_w w, nI i, xfo, nI sp, nI p', nI b', nI lim, nI us', iK, iA, iB, xM, xO, xS, FK, FA, FB, FM, inp, lst', out', vs', xR, xL) → wpX_doItem post (xic, xoc, nI N, xhf, nI fd, nI ll, xol, xea, fw_w w, nI i, xfo, nI sp, nI p, nI b, nI lim, nI us, iK, iA, iB, xM, xO, xS, FK, FA, FB, FM, inp, lst, out, vs, xR, xL) (nI 11) (FA i) (FB i)) ∧ (∀ post : Int32 → SY → Prop, post 0 (yic, nI N, nI fd, nI ll', ymd, ysa, ytk, nI dp, nI p', nI b', nI sp, nI us', ynx, yra, fw_r w, iK, iA, iB, FK, FA, FB, inp, lst', out', vs', yO, yN, yS, yT) → wY_item_113 post (nI i) (nI 11) yic (nI N) (nI fd) (nI ll) ymd ysa ytk (nI dp) (nI p) (nI b) (nI sp) (nI us) ynx yra (fw_r w) iK iA iB FK FA FB inp lst out vs yO yN yS yT)) := by
  obtain ⟨hi, hlim, ci, vi⟩ := rE_i E
  obtain ⟨v, hv, ev, vv, cv⟩ := rE_v (FB i)
  have ev' : FB (nI i).toNatClampNeg &&& 7 = nI v := by rw [ci]; exact ev
  refine Or.inr ⟨p, b, us, ll, lst, out, upd vs v (vs v + FA i), hp, hb, hbp, hus, hll, fun post H => nm_r ev (br_f (by decide) (br_f (by decide) (br_f (by decide) (br_f (by decide) (br_f (by decide) (br_f (by decide) (br_f (by decide) (br_f (by decide) (br_f (by decide) (br_f (by decide) (br_f (by decide) (br_f (by decide) (br_f (by decide) (br_t (by decide) (⟨vv, vv, nm_r (by rw [cv]) H⟩))))))))))))))), fun post H => ⟨vi, nm_r ev' (br_t (by decide) (br_t (by decide) ⟨vi, ?_⟩))⟩⟩
  rw [ci]
  exact br_f (by decide) (br_t (by decide) ⟨vv, vv, nm_r (by rw [cv]) H⟩)
end
