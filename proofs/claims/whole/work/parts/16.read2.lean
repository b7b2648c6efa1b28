/-! VAR and BITS, taken -/
section
variable {xic xoc xfc xhf xil xll xol xea xwr xcu xfo xsp xpo xbl xli xvu yic ysz yfd yls ymd ysa ytk ydp yps ybi ysp yus ynx yra yrd : Int32} {iK iA iB xM xO xS FK FA FB FM inp lst out vs xR xL yO yN yS yT : Nat → Int32}
variable {N fd ll i sp p b lim us dp base S : Nat} {w : Bool}
theorem rv_lock {v : Nat} (E : fr_E FK xR xL yO yN N fd lim S i dp false) (hl : ll < 40) (hv : v < 8) : ∀ (d j : Nat) (x : Int32), j + d = 4 → p + j ≤ lim →
    (∃ (r q : Int32), r ≠ 0 ∧ (∀ post : Int32 → SX → Prop, post r (xic, xoc, nI N, xhf, nI fd, nI ll, xol, xea, fw_w false, nI i, xfo, nI sp, nI p, nI b, nI lim, nI us, iK, iA, iB, xM, xO, xS, FK, FA, FB, FM, inp, lst, out, vs, xR, xL) → wX_readVar_10 post (nI v) xic xoc (nI N) xhf (nI fd) (nI ll) xol xea (fw_w false) (nI i) xfo (nI sp) (nI p) (nI b) (nI lim) (nI us) iK iA iB xM xO xS FK FA FB FM inp lst out vs xR xL (d + 2) x (nI j) 1 (nI j)) ∧ (∀ post : Int32 → SY → Prop, post r (yic, nI N, nI fd, nI ll, ymd, ysa, ytk, nI dp, q, nI b, nI sp, nI us, ynx, yra, fw_r false, iK, iA, iB, FK, FA, FB, inp, lst, out, vs, yO, yN, yS, yT) → wY_takeGroups_4 post (nI v) yic (nI N) (nI fd) (nI ll) ymd ysa ytk (nI dp) (nI b) (nI sp) (nI us) ynx yra (fw_r false) iK iA iB FK FA FB inp lst out vs yO yN yS yT (d + 2) x (nI j) (nI (p + j)))) ∨ (∃ (len : Nat) (y : Int32), 0 < len ∧ p + len ≤ lim ∧ (∀ post : Int32 → SX → Prop, post 0 (xic, xoc, nI N, xhf, nI fd, nI (ll + 1), xol, xea, fw_w false, nI i, xfo, nI sp, nI (p + len), nI b, nI lim, nI us, iK, iA, iB, xM, xO, xS, FK, FA, FB, FM, inp, upd lst ll y, out, upd vs v y, xR, xL) → wX_readVar_10 post (nI v) xic xoc (nI N) xhf (nI fd) (nI ll) xol xea (fw_w false) (nI i) xfo (nI sp) (nI p) (nI b) (nI lim) (nI us) iK iA iB xM xO xS FK FA FB FM inp lst out vs xR xL (d + 2) x (nI j) 1 (nI j)) ∧ (∀ post : Int32 → SY → Prop, post 0 (yic, nI N, nI fd, nI (ll + 1), ymd, ysa, ytk, nI dp, nI (p + len), nI b, nI sp, nI us, ynx, yra, fw_r false, iK, iA, iB, FK, FA, FB, inp, upd lst ll y, out, upd vs v y, yO, yN, yS, yT) → wY_takeGroups_4 post (nI v) yic (nI N) (nI fd) (nI ll) ymd ysa ytk (nI dp) (nI b) (nI sp) (nI us) ynx yra (fw_r false) iK iA iB FK FA FB inp lst out vs yO yN yS yT (d + 2) x (nI j) (nI (p + j)))) := by
  obtain ⟨hi, hlim, ci, vi⟩ := rE_i E
  intro d
  induction d with
  | zero =>
    intro j x hj hpj
    have e4 : j = 4 := by omega
    subst e4
    have e1 : nI p + nI 4 = nI (p + 4) := nI_add p 4
    by_cases h : p + 4 < lim
    · have c1 : nI p + nI 4 < nI lim := by rw [e1]; exact nI_lt h (by omega)
      have v1 : vp_in (nI p + nI 4) 64 := by rw [e1]; exact vp_in_nI (by omega) (by omega)
      have v2 : vp_in (nI (p + 4)) 64 := vp_in_nI (by omega) (by omega)
      have t1 : inp (nI p + nI 4).toNatClampNeg = inp (p + 4) := by rw [e1, nI_clamp (by omega)]
      have t2 : inp (nI (p + 4)).toNatClampNeg = inp (p + 4) := by rw [nI_clamp (by omega)]
      by_cases h15 : 15 < inp (p + 4)
      · exact Or.inl ⟨6, nI (p + 4 + 1), by decide, fun post H => br_f (by decide) (br_f (by decide) (br_t c1 ⟨v1, nm_r t1 (br_t (by decide) (br_t h15 H))⟩)), fun post H => br_f (by decide) (rE_1 (m := 1) (w := false) E (by omega) (br_f (by decide) (nm_r (nI_1 (p + 4)) ⟨v2, nm_r t2 (nm_e (br_t (by decide) (br_t h15 H)))⟩)))⟩
      · by_cases h0 : inp (p + 4) = 0
        · exact Or.inl ⟨6, nI (p + 4 + 1), by decide, fun post H => br_f (by decide) (br_f (by decide) (br_t c1 ⟨v1, nm_r t1 (br_t (by decide) (br_f h15 (br_f (by decide) (br_t h0 H))))⟩)), fun post H => br_f (by decide) (rE_1 (m := 1) (w := false) E (by omega) (br_f (by decide) (nm_r (nI_1 (p + 4)) ⟨v2, nm_r t2 (nm_e (br_t (by decide) (br_f h15 (br_f (by decide) (br_t h0 H)))))⟩)))⟩
        · have h127 := fv_15 h15
          have h128 := (fv_127 _).mp h127
          refine Or.inr ⟨4 + 1, x ||| ((inp (p + 4) &&& 127) <<< (((7 : Int32) * nI 4) &&& 31)), by omega, by omega, fun post H => br_f (by decide) (br_f (by decide) (br_t c1 ⟨v1, nm_r t1 (br_t (by decide) (br_f h15 (br_f (by decide) (br_f h0 (nm_e (br_t h127 (nm_r (nI_1 4) (nm_r (nI_1 4) ?_))))))))⟩)), fun post H => br_f (by decide) (rE_1 (m := 1) (w := false) E (by omega) (br_f (by decide) (nm_r (nI_1 (p + 4)) ⟨v2, nm_r t2 (nm_e (br_t (by decide) (br_f h15 (br_f (by decide) (br_f h0 (br_f h128 ?_))))))⟩)))⟩
          · refine br_t (by decide) (nm_r (nI_add p (4 + 1)) ?_)
            exact rx_kr (w := false) hl hv H
          · exact ry_kp (w := false) hl hv H
    · have c1 : ¬ nI p + nI 4 < nI lim := by rw [e1]; exact nI_nlt (by omega) (by omega)
      exact Or.inl ⟨3, nI (p + 4), by decide, fun post H => br_f (by decide) (br_f (by decide) (br_f c1 H)), fun post H => br_f (by decide) (rE_0 (m := 1) (w := false) E (by omega) (by omega) (by omega) (br_t rfl H))⟩
  | succ d ih =>
    intro j x hj hpj
    have e1 : nI p + nI j = nI (p + j) := nI_add p j
    have j5 : ¬ (5 : Int32) ≤ nI j := nI_ge (b := 5) (by omega) (by decide)
    have j6 : ¬ (5 : Int32) ≤ nI (j + 1) := nI_ge (b := 5) (by omega) (by decide)
    have j4 : ¬ nI j = (4 : Int32) := rx_nl (m := 4) (by omega) (by omega) (by omega)
    by_cases h : p + j < lim
    · have c1 : nI p + nI j < nI lim := by rw [e1]; exact nI_lt h (by omega)
      have v1 : vp_in (nI p + nI j) 64 := by rw [e1]; exact vp_in_nI (by omega) (by omega)
      have v2 : vp_in (nI (p + j)) 64 := vp_in_nI (by omega) (by omega)
      have t1 : inp (nI p + nI j).toNatClampNeg = inp (p + j) := by rw [e1, nI_clamp (by omega)]
      have t2 : inp (nI (p + j)).toNatClampNeg = inp (p + j) := by rw [nI_clamp (by omega)]
      have goX : ∀ (post : Int32 → SX → Prop) (A : Prop), (0 < j → ¬ inp (p + j) = 0) → A → ((nI j ≤ 0 → A) ∧ (¬ nI j ≤ 0 → ((inp (p + j) = 0 → post 6 (xic, xoc, nI N, xhf, nI fd, nI ll, xol, xea, fw_w false, nI i, xfo, nI sp, nI p, nI b, nI lim, nI us, iK, iA, iB, xM, xO, xS, FK, FA, FB, FM, inp, lst, out, vs, xR, xL)) ∧ (¬ inp (p + j) = 0 → A)))) := by
        intro post A hz hA
        by_cases hj0 : j = 0
        · exact br_t (by rw [hj0]; decide) hA
        · exact br_f (nI_nle (by omega) (by omega)) (br_f (hz (by omega)) hA)
      have goY : ∀ (post : Int32 → SY → Prop) (A : Prop) (q : Int32), (0 < j → ¬ inp (p + j) = 0) → A → ((nI j ≤ 0 → A) ∧ (¬ nI j ≤ 0 → ((inp (p + j) = 0 → post 6 (yic, nI N, nI fd, nI ll, ymd, ysa, ytk, nI dp, q, nI b, nI sp, nI us, ynx, yra, fw_r false, iK, iA, iB, FK, FA, FB, inp, lst, out, vs, yO, yN, yS, yT)) ∧ (¬ inp (p + j) = 0 → A)))) := by
        intro post A q hz hA
        by_cases hj0 : j = 0
        · exact br_t (by rw [hj0]; decide) hA
        · exact br_f (nI_nle (by omega) (by omega)) (br_f (hz (by omega)) hA)
      by_cases hz : 0 < j → ¬ inp (p + j) = 0
      · by_cases h127 : inp (p + j) ≤ 127
        · have h128 := (fv_127 _).mp h127
          refine Or.inr ⟨j + 1, x ||| ((inp (p + j) &&& 127) <<< (((7 : Int32) * nI j) &&& 31)), by omega, by omega, fun post H => br_f j5 (br_f (by decide) (br_t c1 ⟨v1, nm_r t1 (br_f j4 (goX post _ hz (nm_e (br_t h127 (nm_r (nI_1 j) (nm_r (nI_1 j) ?_))))))⟩)), fun post H => br_f j5 (rE_1 (m := 1) (w := false) E (by omega) (br_f (by decide) (nm_r (nI_1 (p + j)) ⟨v2, nm_r t2 (nm_e (br_f j4 (goY post _ _ hz (br_f h128 ?_))))⟩)))⟩
          · refine br_f j6 (br_t rfl (nm_r (nI_add p (j + 1)) ?_))
            exact rx_kr (w := false) hl hv H
          · exact ry_kp (w := false) hl hv H
        · have h128 : (128 : Int32) ≤ inp (p + j) := Decidable.byContradiction fun z => h127 ((fv_127 _).mpr z)
          rcases ih (j + 1) (x ||| ((inp (p + j) &&& 127) <<< (((7 : Int32) * nI j) &&& 31))) (by omega) (by omega) with ⟨r, q, hr, HX, HY⟩ | ⟨len, y, hl0, hlen, HX, HY⟩
          · exact Or.inl ⟨r, q, hr, fun post H => br_f j5 (br_f (by decide) (br_t c1 ⟨v1, nm_r t1 (br_f j4 (goX post _ hz (nm_e (br_f h127 (nm_r (nI_1 j) (nm_r (nI_1 j) (HX post H)))))))⟩)), fun post H => br_f j5 (rE_1 (m := 1) (w := false) E (by omega) (br_f (by decide) (nm_r (nI_1 (p + j)) ⟨v2, nm_r t2 (nm_e (br_f j4 (goY post _ _ hz (br_t h128 (nm_r (nI_1 j) (HY post H))))))⟩)))⟩
          · exact Or.inr ⟨len, y, hl0, hlen, fun post H => br_f j5 (br_f (by decide) (br_t c1 ⟨v1, nm_r t1 (br_f j4 (goX post _ hz (nm_e (br_f h127 (nm_r (nI_1 j) (nm_r (nI_1 j) (HX post H)))))))⟩)), fun post H => br_f j5 (rE_1 (m := 1) (w := false) E (by omega) (br_f (by decide) (nm_r (nI_1 (p + j)) ⟨v2, nm_r t2 (nm_e (br_f j4 (goY post _ _ hz (br_t h128 (nm_r (nI_1 j) (HY post H))))))⟩)))⟩
      · have hj0 : 0 < j := Nat.pos_of_ne_zero fun z => hz (fun y => by omega)
        have h0 : inp (p + j) = 0 := Decidable.byContradiction fun z => hz (fun _ => z)
        have jn : ¬ nI j ≤ 0 := nI_nle hj0 (by omega)
        exact Or.inl ⟨6, nI (p + j + 1), by decide, fun post H => br_f j5 (br_f (by decide) (br_t c1 ⟨v1, nm_r t1 (br_f j4 (br_f jn (br_t h0 H)))⟩)), fun post H => br_f j5 (rE_1 (m := 1) (w := false) E (by omega) (br_f (by decide) (nm_r (nI_1 (p + j)) ⟨v2, nm_r t2 (nm_e (br_f j4 (br_f jn (br_t h0 H))))⟩)))⟩
    · have c1 : ¬ nI p + nI j < nI lim := by rw [e1]; exact nI_nlt (by omega) (by omega)
      exact Or.inl ⟨3, nI (p + j), by decide, fun post H => br_f j5 (br_f (by decide) (br_f c1 H)), fun post H => br_f j5 (rE_0 (m := 1) (w := false) E (by omega) (by omega) (by omega) (br_t rfl H))⟩
theorem rf_1r (E : fr_E FK xR xL yO yN N fd lim S i dp w) (hp : p ≤ lim) (hb : b ≤ 7) (hbp : 0 < b → 0 < p) (hus : us ≤ ll) (hll : ll ≤ 40) (hw : w = false) (hl : ll < 40) : (∃ (r q : Int32), r ≠ 0 ∧ (w = true → q = nI p) ∧ (∀ post : Int32 → SX → Prop, post r (xic, xoc, nI N, xhf, nI fd, nI ll, xol, xea, fw_w w, nI i, xfo, nI sp, nI p, nI b, nI lim, nI us, iK, iA, iB, xM, xO, xS, FK, FA, FB, FM, inp, lst, out, vs, xR, xL) → wpX_doItem post (xic, xoc, nI N, xhf, nI fd, nI ll, xol, xea, fw_w w, nI i, xfo, nI sp, nI p, nI b, nI lim, nI us, iK, iA, iB, xM, xO, xS, FK, FA, FB, FM, inp, lst, out, vs, xR, xL) (nI 1) (FA i) (FB i)) ∧ (∀ post : Int32 → SY → Prop, post r (yic, nI N, nI fd, nI ll, ymd, ysa, ytk, nI dp, q, nI b, nI sp, nI us, ynx, yra, fw_r w, iK, iA, iB, FK, FA, FB, inp, lst, out, vs, yO, yN, yS, yT) → wY_item_113 post (nI i) (nI 1) yic (nI N) (nI fd) (nI ll) ymd ysa ytk (nI dp) (nI p) (nI b) (nI sp) (nI us) ynx yra (fw_r w) iK iA iB FK FA FB inp lst out vs yO yN yS yT)) ∨ (∃ (p' b' us' ll' : Nat) (lst' out' vs' : Nat → Int32), p' ≤ lim ∧ b' ≤ 7 ∧ (0 < b' → 0 < p') ∧ us' ≤ ll' ∧ ll' ≤ 40 ∧ (∀ post : Int32 → SX → Prop, post 0 (xic, xoc, nI N, xhf, nI fd, nI ll', xol, xea, fw_w w, nI i, xfo, nI sp, nI p', nI b', nI lim, nI us', iK, iA, iB, xM, xO, xS, FK, FA, FB, FM, inp, lst', out', vs', xR, xL) → wpX_doItem post (xic, xoc, nI N, xhf, nI fd, nI ll, xol, xea, fw_w w, nI i, xfo, nI sp, nI p, nI b, nI lim, nI us, iK, iA, iB, xM, xO, xS, FK, FA, FB, FM, inp, lst, out, vs, xR, xL) (nI 1) (FA i) (FB i)) ∧ (∀ post : Int32 → SY → Prop, post 0 (yic, nI N, nI fd, nI ll', ymd, ysa, ytk, nI dp, nI p', nI b', nI sp, nI us', ynx, yra, fw_r w, iK, iA, iB, FK, FA, FB, inp, lst', out', vs', yO, yN, yS, yT) → wY_item_113 post (nI i) (nI 1) yic (nI N) (nI fd) (nI ll) ymd ysa ytk (nI dp) (nI p) (nI b) (nI sp) (nI us) ynx yra (fw_r w) iK iA iB FK FA FB inp lst out vs yO yN yS yT)) := by
  obtain ⟨hi, hlim, ci, vi⟩ := rE_i E
  obtain ⟨v, hv, ev, vv, cv⟩ := rE_v (FB i)
  have ev' : FB (nI i).toNatClampNeg &&& 7 = nI v := by rw [ci]; exact ev
  subst hw
  rcases rv_lock (v := v) E hl hv 4 0 0 (by omega) (by omega) (p := p) (b := b) (us := us) (sp := sp) (xic := xic) (xoc := xoc) (xhf := xhf) (xol := xol) (xea := xea) (xfo := xfo) (xS := xS) (xM := xM) (xO := xO) (FM := FM) (yic := yic) (ymd := ymd) (ysa := ysa) (ytk := ytk) (ynx := ynx) (yra := yra) (yS := yS) (yT := yT) (iK := iK) (iA := iA) (iB := iB) (FA := FA) (FB := FB) (inp := inp) (lst := lst) (vs := vs) (out := out) with ⟨r, q, hr, HX, HY⟩ | ⟨len, y, hl0, hlen, HX, HY⟩
  · exact Or.inl ⟨r, q, hr, fun z => absurd z (by decide), fun post H => nm_r ev (br_f (by decide) (br_f (by decide) (br_f (by decide) (br_t (by decide) (br_t rfl ⟨6, HX _ H⟩))))), fun post H => ⟨vi, nm_r ev' (br_f (by decide) (br_f (by decide) ⟨vi, nm_e (br_t (by decide) ⟨6, HY _ H⟩)⟩))⟩⟩
  · exact Or.inr ⟨p + len, b, us, ll + 1, upd lst ll y, out, upd vs v y, hlen, hb, fun _ => by omega, by omega, hl, fun post H => nm_r ev (br_f (by decide) (br_f (by decide) (br_f (by decide) (br_t (by decide) (br_t rfl ⟨6, HX _ H⟩))))), fun post H => ⟨vi, nm_r ev' (br_f (by decide) (br_f (by decide) ⟨vi, nm_e (br_t (by decide) ⟨6, HY _ H⟩)⟩))⟩⟩
/-! BITS -/
theorem rx_bt {post : Int32 → Prop} {a : Nat} (ha : a ≤ 16) (hb : b ≤ 7) (H : post (nI (fq a b))) : wpX_bytesToBegin post (xic, xoc, nI N, xhf, nI fd, nI ll, xol, xea, fw_w w, nI i, xfo, nI sp, nI p, nI b, nI lim, nI us, iK, iA, iB, xM, xO, xS, FK, FA, FB, FM, inp, lst, out, vs, xR, xL) (nI a) := by
  unfold fq at H
  by_cases z : a ≤ b
  · rw [if_pos z] at H
    exact br_t (nI_le z (by omega)) H
  · rw [if_neg z] at H
    refine br_f (nI_ge (by omega) (by omega)) ?_
    have e : (nI a - nI b + 7) >>> ((3 : Int32) &&& 31) = nI ((a - b + 7) / 8) := by
      rw [pk_sub (by omega), show nI (a - b) + 7 = nI (a - b + 7) from nI_add _ 7, pk_shrN (by omega) _ 3 (by decide)]
    rw [e]
    exact H
theorem ry_wt {post : Int32 → Prop} {a : Nat} (ha : a ≤ 16) (hb : b ≤ 7) (H : post (nI (fq a b))) : wpY_wanted post (yic, nI N, nI fd, nI ll, ymd, ysa, ytk, nI dp, nI p, nI b, nI sp, nI us, ynx, yra, fw_r w, iK, iA, iB, FK, FA, FB, inp, lst, out, vs, yO, yN, yS, yT) (nI a) := by
  unfold fq at H
  by_cases z : a ≤ b
  · rw [if_pos z] at H
    exact br_t (nI_le z (by omega)) H
  · rw [if_neg z] at H
    refine br_f (nI_ge (by omega) (by omega)) ⟨by decide, ?_⟩
    have e : (nI a - nI b + 7) / (8 : Int32) = nI ((a - b + 7) / 8) := by
      rw [pk_sub (by omega), show nI (a - b) + 7 = nI (a - b + 7) from nI_add _ 7]
      exact pk_div (d := 8) (by omega) (by omega) (by omega)
    rw [e]
    exact H
theorem rb_lock {a v : Nat} (ha : a ≤ 16) (hlim : lim ≤ 64) : ∀ (d j q c : Nat) (x : Int32), j + d = a → q ≤ lim → c ≤ 7 → (0 < c → 0 < q) → d ≤ c + 8 * (lim - q) →
    ∃ (q' c' : Nat) (y : Int32), q' ≤ lim ∧ c' ≤ 7 ∧ (0 < c' → 0 < q') ∧ (∀ post : Int32 → SX → Prop, wpX_keepRead (fun u => match u with | (xic, xoc, xfc, xhf, xil, xll, xol, xea, xwr, xcu, xfo, xsp, xpo, xbl, xli, xvu, iK, iA, iB, xM, xO, xS, FK, FA, FB, FM, inp, lst, out, vs, xR, xL) => post 0 (xic, xoc, xfc, xhf, xil, xll, xol, xea, xwr, xcu, xfo, xsp, xpo, xbl, xli, xvu, iK, iA, iB, xM, xO, xS, FK, FA, FB, FM, inp, lst, out, vs, xR, xL)) (xic, xoc, nI N, xhf, nI fd, nI ll, xol, xea, fw_w w, nI i, xfo, nI sp, nI q', nI c', nI lim, nI us, iK, iA, iB, xM, xO, xS, FK, FA, FB, FM, inp, lst, out, vs, xR, xL) y (nI v) → wX_readBits_27 post (nI a) (nI v) xic xoc (nI N) xhf (nI fd) (nI ll) xol xea (fw_w w) (nI i) xfo (nI sp) (nI lim) (nI us) iK iA iB xM xO xS FK FA FB FM inp lst out vs xR xL (d + 1) x (nI j) (nI q) (nI c)) ∧ (∀ post : Int32 → SY → Prop, wpY_keep (fun r u => match u with | (yic, ysz, yfd, yls, ymd, ysa, ytk, ydp, yps, ybi, ysp, yus, ynx, yra, yrd, yK, yA, yB, zK, zA, zB, yin, ylst, yout, yvs, yO, yN, yS, yT) => post r (yic, ysz, yfd, yls, ymd, ysa, ytk, ydp, yps, ybi, ysp, yus, ynx, yra, yrd, yK, yA, yB, zK, zA, zB, yin, ylst, yout, yvs, yO, yN, yS, yT)) (yic, nI N, nI fd, nI ll, ymd, ysa, ytk, nI dp, nI q', nI c', nI sp, nI us, ynx, yra, fw_r w, iK, iA, iB, FK, FA, FB, inp, lst, out, vs, yO, yN, yS, yT) (nI v) y → wY_take_174 post (nI v) (nI a) yic (nI N) (nI fd) (nI ll) ymd ysa ytk (nI dp) (nI sp) (nI us) ynx yra (fw_r w) iK iA iB FK FA FB inp lst out vs yO yN yS yT (d + 1) x (nI j) (nI q) (nI c)) := by
  intro d
  induction d with
  | zero =>
    intro j q c x hj hq hc hcq hd
    have c1 : nI a ≤ nI j := nI_le (by omega) (by omega)
    exact ⟨q, c, x, hq, hc, hcq, fun post H => br_t c1 H, fun post H => br_t c1 H⟩
  | succ d ih =>
    intro j q c x hj hq hc hcq hd
    have c1 : ¬ nI a ≤ nI j := nI_ge (by omega) (by omega)
    by_cases h0 : c = 0
    · subst h0
      have em : nI (q + 1) - 1 = nI q := nI_pred q
      have vm : vp_in (nI (q + 1) - 1) 64 := by rw [em]; exact vp_in_nI (by omega) (by omega)
      have cm : (nI (q + 1) - 1).toNatClampNeg = q := by rw [em]; exact nI_clamp (by omega)
      obtain ⟨q', c', y, k1, k2, k3, HX, HY⟩ := ih (j + 1) (q + 1) 7 ((x <<< ((1 : Int32) &&& 31)) ||| ((inp q >>> (nI 7 &&& 31)) &&& 1)) (by omega) (by omega) (by omega) (fun _ => by omega) (by omega)
      exact ⟨q', c', y, k1, k2, k3, fun post H => br_f c1 (br_t (by decide) (nm_r (nI_1 q) (nm_r (e' := nI 7) (by decide) ⟨vm, nm_r (by rw [cm]) (nm_r (nI_1 j) (HX post H))⟩))), fun post H => br_f c1 (br_t (by decide) (nm_r (nI_1 q) (nm_r (e' := nI 7) (by decide) ⟨vm, nm_r (by rw [cm]) (nm_r (nI_1 j) (HY post H))⟩)))⟩
    · obtain ⟨c, rfl⟩ : ∃ e, c = e + 1 := ⟨c - 1, by omega⟩
      have hq0 := hcq (by omega)
      obtain ⟨q, rfl⟩ : ∃ e, q = e + 1 := ⟨q - 1, by omega⟩
      have em : nI (q + 1) - 1 = nI q := nI_pred q
      have vm : vp_in (nI (q + 1) - 1) 64 := by rw [em]; exact vp_in_nI (by omega) (by omega)
      have cm : (nI (q + 1) - 1).toNatClampNeg = q := by rw [em]; exact nI_clamp (by omega)
      have n0 : ¬ nI (c + 1) = 0 := nI_ne0 (by omega) (by omega)
      obtain ⟨q', c', y, k1, k2, k3, HX, HY⟩ := ih (j + 1) (q + 1) c ((x <<< ((1 : Int32) &&& 31)) ||| ((inp q >>> (nI c &&& 31)) &&& 1)) (by omega) (by omega) (by omega) (fun _ => by omega) (by omega)
      exact ⟨q', c', y, k1, k2, k3, fun post H => br_f c1 (br_f n0 (nm_r (nI_pred c) ⟨vm, nm_r (by rw [cm]) (nm_r (nI_1 j) (HX post H))⟩)), fun post H => br_f c1 (br_f n0 (nm_r (nI_pred c) ⟨vm, nm_r (by rw [cm]) (nm_r (nI_1 j) (HY post H))⟩))⟩
theorem rf_2r (E : fr_E FK xR xL yO yN N fd lim S i dp w) (hp : p ≤ lim) (hb : b ≤ 7) (hbp : 0 < b → 0 < p) (hus : us ≤ ll) (hll : ll ≤ 40) {a : Nat} (h1 : 1 ≤ a) (h16 : a ≤ 16) (ha : FA i = nI a) (hw : w = false) (hl : ll < 40) : (∃ (r q : Int32), r ≠ 0 ∧ (w = true → q = nI p) ∧ (∀ post : Int32 → SX → Prop, post r (xic, xoc, nI N, xhf, nI fd, nI ll, xol, xea, fw_w w, nI i, xfo, nI sp, nI p, nI b, nI lim, nI us, iK, iA, iB, xM, xO, xS, FK, FA, FB, FM, inp, lst, out, vs, xR, xL) → wpX_doItem post (xic, xoc, nI N, xhf, nI fd, nI ll, xol, xea, fw_w w, nI i, xfo, nI sp, nI p, nI b, nI lim, nI us, iK, iA, iB, xM, xO, xS, FK, FA, FB, FM, inp, lst, out, vs, xR, xL) (nI 2) (FA i) (FB i)) ∧ (∀ post : Int32 → SY → Prop, post r (yic, nI N, nI fd, nI ll, ymd, ysa, ytk, nI dp, q, nI b, nI sp, nI us, ynx, yra, fw_r w, iK, iA, iB, FK, FA, FB, inp, lst, out, vs, yO, yN, yS, yT) → wY_item_113 post (nI i) (nI 2) yic (nI N) (nI fd) (nI ll) ymd ysa ytk (nI dp) (nI p) (nI b) (nI sp) (nI us) ynx yra (fw_r w) iK iA iB FK FA FB inp lst out vs yO yN yS yT)) ∨ (∃ (p' b' us' ll' : Nat) (lst' out' vs' : Nat → Int32), p' ≤ lim ∧ b' ≤ 7 ∧ (0 < b' → 0 < p') ∧ us' ≤ ll' ∧ ll' ≤ 40 ∧ (∀ post : Int32 → SX → Prop, post 0 (xic, xoc, nI N, xhf, nI fd, nI ll', xol, xea, fw_w w, nI i, xfo, nI sp, nI p', nI b', nI lim, nI us', iK, iA, iB, xM, xO, xS, FK, FA, FB, FM, inp, lst', out', vs', xR, xL) → wpX_doItem post (xic, xoc, nI N, xhf, nI fd, nI ll, xol, xea, fw_w w, nI i, xfo, nI sp, nI p, nI b, nI lim, nI us, iK, iA, iB, xM, xO, xS, FK, FA, FB, FM, inp, lst, out, vs, xR, xL) (nI 2) (FA i) (FB i)) ∧ (∀ post : Int32 → SY → Prop, post 0 (yic, nI N, nI fd, nI ll', ymd, ysa, ytk, nI dp, nI p', nI b', nI sp, nI us', ynx, yra, fw_r w, iK, iA, iB, FK, FA, FB, inp, lst', out', vs', yO, yN, yS, yT) → wY_item_113 post (nI i) (nI 2) yic (nI N) (nI fd) (nI ll) ymd ysa ytk (nI dp) (nI p) (nI b) (nI sp) (nI us) ynx yra (fw_r w) iK iA iB FK FA FB inp lst out vs yO yN yS yT)) := by
  obtain ⟨hi, hlim, ci, vi⟩ := rE_i E
  obtain ⟨v, hv, ev, vv, cv⟩ := rE_v (FB i)
  have ev' : FB (nI i).toNatClampNeg &&& 7 = nI v := by rw [ci]; exact ev
  have ea : FA (nI i).toNatClampNeg = nI a := by rw [ci]; exact ha
  have esub : nI lim - nI p = nI (lim - p) := pk_sub hp
  have f16 := fq_lt (b := b) h16
  subst hw
  by_cases h : fq a b ≤ lim - p
  · have cX : nI (fq a b) ≤ nI lim - nI p := by rw [esub]; exact nI_le h (by omega)
    obtain ⟨q', c', y, k1, k2, k3, HX, HY⟩ := rb_lock (v := v) h16 hlim a 0 p b 0 (by omega) hp hb hbp (fq_le h) (w := false) (i := i) (N := N) (fd := fd) (ll := ll) (us := us) (sp := sp) (dp := dp) (xic := xic) (xoc := xoc) (xhf := xhf) (xol := xol) (xea := xea) (xfo := xfo) (xS := xS) (xM := xM) (xO := xO) (FK := FK) (FM := FM) (xR := xR) (xL := xL) (yic := yic) (ymd := ymd) (ysa := ysa) (ytk := ytk) (ynx := ynx) (yra := yra) (yO := yO) (yN := yN) (yS := yS) (yT := yT) (iK := iK) (iA := iA) (iB := iB) (FA := FA) (FB := FB) (inp := inp) (lst := lst) (vs := vs) (out := out)
    refine Or.inr ⟨q', c', us, ll + 1, upd lst ll y, out, upd vs v y, k1, k2, k3, by omega, hl, fun post H => ?_, fun post H => ?_⟩
    · rw [ha]
      refine nm_r ev (br_f (by decide) (br_f (by decide) (br_f (by decide) (br_f (by decide) (br_t (by decide) (br_t rfl ?_))))))
      unfold wpX_readBits
      exact rx_bt (w := false) h16 hb (br_t cX ⟨a + 1, HX _ (rx_kr (w := false) hl hv H)⟩)
    · refine ⟨vi, nm_r ev' (br_f (by decide) (br_f (by decide) ⟨vi, nm_r ea (br_f (by decide) (br_f (by decide) (ry_wt (w := false) h16 hb ?_)))⟩))⟩
      exact rE_1 (w := false) E (by omega) (br_f (by decide) (br_f (by decide) ⟨a + 1, HY _ (ry_kp (w := false) hl hv H)⟩))
  · have cX : ¬ nI (fq a b) ≤ nI lim - nI p := by rw [esub]; exact nI_ge (by omega) (by omega)
    refine Or.inl ⟨3, nI p, by decide, fun _ => rfl, fun post H => ?_, fun post H => ⟨vi, nm_r ev' (br_f (by decide) (br_f (by decide) ⟨vi, nm_r ea (br_f (by decide) (br_f (by decide) (ry_wt (w := false) h16 hb ?_)))⟩))⟩⟩
    · rw [ha]
      refine nm_r ev (br_f (by decide) (br_f (by decide) (br_f (by decide) (br_f (by decide) (br_t (by decide) (br_t rfl ?_))))))
      unfold wpX_readBits
      exact rx_bt (w := false) h16 hb (br_f cX H)
    · exact rE_0 (w := false) E hp (by omega) (by omega) (br_t rfl H)
end
