/-! ALIGN, and the numbers that a parse takes -/
section
variable {xic xoc xfc xhf xil xll xol xea xwr xcu xfo xsp xpo xbl xli xvu yic ysz yfd yls ymd ysa ytk ydp yps ybi ysp yus ynx yra yrd : Int32} {iK iA iB xM xO xS FK FA FB FM inp lst out vs xR xL yO yN yS yT : Nat → Int32}
variable {N fd ll i sp p b lim us dp base S : Nat} {w : Bool}
theorem ra_4 {post : Int32 → SX → Prop} {m c : Nat} (hp : p ≤ 64) (h2 : 2 ≤ m) (h8 : m ≤ 8) (hc : c ≤ p) (hcm : p ≤ c * m) (hit : ∀ j, j * m < p ↔ j < c) (H : wX_doAlign_28 post (nI (c * m)) xic xoc (nI N) xhf (nI fd) (nI ll) xol xea (fw_w w) (nI i) xfo (nI sp) (nI p) (nI b) (nI lim) (nI us) iK iA iB xM xO xS FK FA FB FM inp lst out vs xR xL) : ∀ d j : Nat, j + d = c → wX_doAlign_4 post (nI m) xic xoc (nI N) xhf (nI fd) (nI ll) xol xea (fw_w w) (nI i) xfo (nI sp) (nI p) (nI b) (nI lim) (nI us) iK iA iB xM xO xS FK FA FB FM inp lst out vs xR xL (d + 1) (nI (j * m)) (nI j) := by
  have hb : ∀ j, j ≤ 64 → j * m ≤ 64 * 8 := fun j hj => Nat.mul_le_mul hj h8
  intro d
  induction d with
  | zero =>
    intro j hj
    have e : j = c := by omega
    rw [e]
    have q := hb c (by omega)
    by_cases h64 : c < 64
    · exact br_f (nI_ge (b := 64) h64 (by decide)) (br_t (nI_le hcm (by omega)) H)
    · exact br_t (nI_le (a := 64) (by omega) (by omega)) H
  | succ d ih =>
    intro j hj
    have q := hb j (by omega)
    have hj2 := (hit j).mpr (by omega)
    have e : nI (j * m) + nI m = nI ((j + 1) * m) := by rw [nI_add, Nat.succ_mul]
    exact br_f (nI_ge (b := 64) (by omega) (by decide)) (br_f (nI_ge hj2 (by omega)) (nm_r e (nm_r (nI_1 j) (ih (j + 1) (by omega)))))
theorem ra_lock {r : Nat} (hr : p + r ≤ 64) : ∀ (d j : Nat) (out : Nat → Int32), j + d = r →
    (w = false ∧ ∃ q : Int32, (∀ post : Int32 → SX → Prop, post 6 (xic, xoc, nI N, xhf, nI fd, nI ll, xol, xea, fw_w w, nI i, xfo, nI sp, nI p, nI b, nI lim, nI us, iK, iA, iB, xM, xO, xS, FK, FA, FB, FM, inp, lst, out, vs, xR, xL) → wX_doAlign_43 post (nI (p + r)) xic xoc (nI N) xhf (nI fd) (nI ll) xol xea (fw_w w) (nI i) xfo (nI sp) (nI p) (nI b) (nI lim) (nI us) (d + 1) (nI (p + j)) iK iA iB xM xO xS FK FA FB FM inp lst out vs xR xL) ∧ (∀ post : Int32 → SY → Prop, post 6 (yic, nI N, nI fd, nI ll, ymd, ysa, ytk, nI dp, q, nI b, nI sp, nI us, ynx, yra, fw_r w, iK, iA, iB, FK, FA, FB, inp, lst, out, vs, yO, yN, yS, yT) → wY_plain_147 post (nI r) (d + 1) (nI j) yic (nI N) (nI fd) (nI ll) ymd ysa ytk (nI dp) (nI (p + j)) (nI b) (nI sp) (nI us) ynx yra (fw_r w) iK iA iB FK FA FB inp lst out vs yO yN yS yT)) ∨ (∃ out' : Nat → Int32, (∀ post : Int32 → SX → Prop, post 0 (xic, xoc, nI N, xhf, nI fd, nI ll, xol, xea, fw_w w, nI i, xfo, nI sp, nI (p + r), nI b, nI lim, nI us, iK, iA, iB, xM, xO, xS, FK, FA, FB, FM, inp, lst, out', vs, xR, xL) → wX_doAlign_43 post (nI (p + r)) xic xoc (nI N) xhf (nI fd) (nI ll) xol xea (fw_w w) (nI i) xfo (nI sp) (nI p) (nI b) (nI lim) (nI us) (d + 1) (nI (p + j)) iK iA iB xM xO xS FK FA FB FM inp lst out vs xR xL) ∧ (∀ post : Int32 → SY → Prop, post 0 (yic, nI N, nI fd, nI ll, ymd, ysa, ytk, nI dp, nI (p + r), nI b, nI sp, nI us, ynx, yra, fw_r w, iK, iA, iB, FK, FA, FB, inp, lst, out', vs, yO, yN, yS, yT) → wY_plain_147 post (nI r) (d + 1) (nI j) yic (nI N) (nI fd) (nI ll) ymd ysa ytk (nI dp) (nI (p + j)) (nI b) (nI sp) (nI us) ynx yra (fw_r w) iK iA iB FK FA FB inp lst out vs yO yN yS yT)) := by
  intro d
  induction d with
  | zero =>
    intro j out hj
    have e : j = r := by omega
    rw [e]
    exact Or.inr ⟨out, fun post H => br_t (nI_le (by omega) (by omega)) H, fun post H => br_t (nI_le (by omega) (by omega)) H⟩
  | succ d ih =>
    intro j out hj
    have vj : vp_in (nI (p + j)) 64 := vp_in_nI (by omega) (by omega)
    have cj : (nI (p + j)).toNatClampNeg = p + j := nI_clamp (by omega)
    have cX : ¬ nI (p + r) ≤ nI (p + j) := nI_ge (by omega) (by omega)
    have cY : ¬ nI r ≤ nI j := nI_ge (by omega) (by omega)
    cases w with
    | false =>
      by_cases h0 : inp (p + j) = 0
      · have x0 : inp (nI (p + j)).toNatClampNeg = 0 := by rw [cj]; exact h0
        rcases ih (j + 1) out (by omega) with ⟨hw, q, HX, HY⟩ | ⟨out', HX, HY⟩
        · exact Or.inl ⟨rfl, q, fun post H => br_f cX (br_t rfl ⟨vj, br_t x0 (nm_r (nI_1 (p + j)) (HX post H))⟩), fun post H => br_f cY (ry_ex0 (w := false) (by omega) (fun _ => h0) (br_t rfl (nm_r (nI_1 j) (HY post H))))⟩
        · exact Or.inr ⟨out', fun post H => br_f cX (br_t rfl ⟨vj, br_t x0 (nm_r (nI_1 (p + j)) (HX post H))⟩), fun post H => br_f cY (ry_ex0 (w := false) (by omega) (fun _ => h0) (br_t rfl (nm_r (nI_1 j) (HY post H))))⟩
      · have x0 : ¬ inp (nI (p + j)).toNatClampNeg = 0 := by rw [cj]; exact h0
        exact Or.inl ⟨rfl, nI (p + j), fun post H => br_f cX (br_t rfl ⟨vj, br_f x0 H⟩), fun post H => br_f cY (ry_ex5 (w := false) (by omega) rfl h0 (br_f (by decide) H))⟩
    | true =>
      rcases ih (j + 1) (upd out (p + j) 0) (by omega) with ⟨hw, q, HX, HY⟩ | ⟨out', HX, HY⟩
      · exact absurd hw (by decide)
      · exact Or.inr ⟨out', fun post H => br_f cX (br_f (by decide) ⟨vj, nm_r (by rw [cj]) (nm_r (nI_1 (p + j)) (HX post H))⟩), fun post H => br_f cY (ry_ex0 (w := true) (by omega) (fun z => absurd z (by decide)) (br_t rfl (nm_r (nI_1 j) (HY post H))))⟩
theorem rf_8 (E : fr_E FK xR xL yO yN N fd lim S i dp w) (hp : p ≤ lim) (hb : b ≤ 7) (hbp : 0 < b → 0 < p) (hus : us ≤ ll) (hll : ll ≤ 40) {m : Nat} (h2 : 2 ≤ m) (h8 : m ≤ 8) (ha : FA i = nI m) : (∃ (r q : Int32), r ≠ 0 ∧ (w = true → q = nI p) ∧ (∀ post : Int32 → SX → Prop, post r (xic, xoc, nI N, xhf, nI fd, nI ll, xol, xea, fw_w w, nI i, xfo, nI sp, nI p, nI b, nI lim, nI us, iK, iA, iB, xM, xO, xS, FK, FA, FB, FM, inp, lst, out, vs, xR, xL) → wpX_doItem post (xic, xoc, nI N, xhf, nI fd, nI ll, xol, xea, fw_w w, nI i, xfo, nI sp, nI p, nI b, nI lim, nI us, iK, iA, iB, xM, xO, xS, FK, FA, FB, FM, inp, lst, out, vs, xR, xL) (nI 8) (FA i) (FB i)) ∧ (∀ post : Int32 → SY → Prop, post r (yic, nI N, nI fd, nI ll, ymd, ysa, ytk, nI dp, q, nI b, nI sp, nI us, ynx, yra, fw_r w, iK, iA, iB, FK, FA, FB, inp, lst, out, vs, yO, yN, yS, yT) → wY_item_113 post (nI i) (nI 8) yic (nI N) (nI fd) (nI ll) ymd ysa ytk (nI dp) (nI p) (nI b) (nI sp) (nI us) ynx yra (fw_r w) iK iA iB FK FA FB inp lst out vs yO yN yS yT)) ∨ (∃ (p' b' us' ll' : Nat) (lst' out' vs' : Nat → Int32), p' ≤ lim ∧ b' ≤ 7 ∧ (0 < b' → 0 < p') ∧ us' ≤ ll' ∧ ll' ≤ 40 ∧ (∀ post : Int32 → SX → Prop, post 0 (xic, xoc, nI N, xhf, nI fd, nI ll', xol, xea, fw_w w, nI i, xfo, nI sp, nI p', nI b', nI lim, nI us', iK, iA, iB, xM, xO, xS, FK, FA, FB, FM, inp, lst', out', vs', xR, xL) → wpX_doItem post (xic, xoc, nI N, xhf, nI fd, nI ll, xol, xea, fw_w w, nI i, xfo, nI sp, nI p, nI b, nI lim, nI us, iK, iA, iB, xM, xO, xS, FK, FA, FB, FM, inp, lst, out, vs, xR, xL) (nI 8) (FA i) (FB i)) ∧ (∀ post : Int32 → SY → Prop, post 0 (yic, nI N, nI fd, nI ll', ymd, ysa, ytk, nI dp, nI p', nI b', nI sp, nI us', ynx, yra, fw_r w, iK, iA, iB, FK, FA, FB, inp, lst', out', vs', yO, yN, yS, yT) → wY_item_113 post (nI i) (nI 8) yic (nI N) (nI fd) (nI ll) ymd ysa ytk (nI dp) (nI p) (nI b) (nI sp) (nI us) ynx yra (fw_r w) iK iA iB FK FA FB inp lst out vs yO yN yS yT)) := by
  obtain ⟨hi, hlim, ci, vi⟩ := rE_i E
  obtain ⟨v, hv, ev, vv, cv⟩ := rE_v (FB i)
  have ev' : FB (nI i).toNatClampNeg &&& 7 = nI v := by rw [ci]; exact ev
  obtain ⟨c, hc1, hc2, hc3⟩ := fa_al (p := p) h2 h8
  have hmod : p % m < m := Nat.mod_lt _ (by omega)
  have hmod2 : (m - p % m) % m < m := Nat.mod_lt _ (by omega)
  have HX : ∀ post : Int32 → SX → Prop, wX_doAlign_28 (fun r u => match u with | (xic, xoc, xfc, xhf, xil, xll, xol, xea, xwr, xcu, xfo, xsp, xpo, xbl, xli, xvu, iK, iA, iB, xM, xO, xS, FK, FA, FB, FM, inp, lst, out, vs, xR, xL) => post r (xic, xoc, xfc, xhf, xil, xll, xol, xea, xwr, xcu, xfo, xsp, xpo, xbl, xli, xvu, iK, iA, iB, xM, xO, xS, FK, FA, FB, FM, inp, lst, out, vs, xR, xL)) (nI (c * m)) xic xoc (nI N) xhf (nI fd) (nI ll) xol xea (fw_w w) (nI i) xfo (nI sp) (nI p) (nI b) (nI lim) (nI us) iK iA iB xM xO xS FK FA FB FM inp lst out vs xR xL → wpX_doItem post (xic, xoc, nI N, xhf, nI fd, nI ll, xol, xea, fw_w w, nI i, xfo, nI sp, nI p, nI b, nI lim, nI us, iK, iA, iB, xM, xO, xS, FK, FA, FB, FM, inp, lst, out, vs, xR, xL) (nI 8) (FA i) (FB i) := by
    intro post H
    rw [ha]
    refine nm_r ev (br_f (by decide) (br_f (by decide) (br_f (by decide) (br_f (by decide) (br_f (by decide) (br_f (by decide) (br_f (by decide) (br_f (by decide) (br_f (by decide) (br_f (by decide) (br_t (by decide) (⟨c + 1, ?_⟩))))))))))))
    have K := ra_4 (by omega) h2 h8 hc2 (by omega) hc3 H c 0 (by omega)
    rw [Nat.zero_mul] at K
    exact K
  have m0 : ¬ nI m = 0 := nI_ne0 (by omega) (by omega)
  have er : (nI m - (nI p - nI p / nI m * nI m)) - (nI m - (nI p - nI p / nI m * nI m)) / nI m * nI m = nI ((m - p % m) % m) := by
    rw [pk_rem (by omega) (by omega) (by omega), pk_sub (by omega), pk_rem (by omega) (by omega) (by omega)]
  generalize hr : (m - p % m) % m = r at *
  rw [hc1] at HX
  have HY : ∀ post : Int32 → SY → Prop, wpY_room (fun r_170 => (r_170 = 0 → post 3 (yic, nI N, nI fd, nI ll, ymd, ysa, ytk, nI dp, nI p, nI b, nI sp, nI us, ynx, yra, fw_r w, iK, iA, iB, FK, FA, FB, inp, lst, out, vs, yO, yN, yS, yT)) ∧ (¬ r_170 = 0 → ∃ n147 : Nat, wY_plain_147 post (nI r) n147 0 yic (nI N) (nI fd) (nI ll) ymd ysa ytk (nI dp) (nI p) (nI b) (nI sp) (nI us) ynx yra (fw_r w) iK iA iB FK FA FB inp lst out vs yO yN yS yT)) (yic, nI N, nI fd, nI ll, ymd, ysa, ytk, nI dp, nI p, nI b, nI sp, nI us, ynx, yra, fw_r w, iK, iA, iB, FK, FA, FB, inp, lst, out, vs, yO, yN, yS, yT) (nI r) → wY_item_113 post (nI i) (nI 8) yic (nI N) (nI fd) (nI ll) ymd ysa ytk (nI dp) (nI p) (nI b) (nI sp) (nI us) ynx yra (fw_r w) iK iA iB FK FA FB inp lst out vs yO yN yS yT := by
    intro post H
    refine ⟨vi, nm_r ev' (br_t (by decide) (br_t (by decide) ⟨vi, ?_⟩))⟩
    rw [ci, ha]
    exact br_f (by decide) (br_f (by decide) (br_f (by decide) (br_f (by decide) (br_f (by decide) (br_f (by decide) (br_f (by decide) (br_t (by decide) ⟨m0, m0, nm_r er H⟩)))))))
  by_cases h : p + r ≤ lim
  · rcases ra_lock (p := p) (w := w) (r := r) (by omega) r 0 out (by omega) (xic := xic) (xoc := xoc) (xhf := xhf) (xol := xol) (xea := xea) (xfo := xfo) (lim := lim) (us := us) (i := i) (xS := xS) (xM := xM) (xO := xO) (FM := FM) (xR := xR) (xL := xL) (yic := yic) (ymd := ymd) (ysa := ysa) (ytk := ytk) (dp := dp) (ynx := ynx) (yra := yra) (yO := yO) (yN := yN) (yS := yS) (yT := yT) (iK := iK) (iA := iA) (iB := iB) (FK := FK) (FA := FA) (FB := FB) (inp := inp) (lst := lst) (vs := vs) (N := N) (fd := fd) (ll := ll) (sp := sp) (b := b) with ⟨hw, q, KX, KY⟩ | ⟨out', KX, KY⟩
    · refine Or.inl ⟨6, q, by decide, fun z => ?_, fun post H => HX _ (br_t (nI_le h (by omega)) ⟨r + 1, KX _ H⟩), fun post H => HY _ (rE_1 E h (br_f (by decide) ⟨r + 1, KY _ H⟩))⟩
      rw [hw] at z
      exact absurd z (by decide)
    · exact Or.inr ⟨p + r, b, us, ll, lst, out', vs, h, hb, fun z => by have := hbp z; omega, hus, hll, fun post H => HX _ (br_t (nI_le h (by omega)) ⟨r + 1, KX _ H⟩), fun post H => HY _ (rE_1 E h (br_f (by decide) ⟨r + 1, KY _ H⟩))⟩
  · exact Or.inl ⟨3, nI p, by decide, fun _ => rfl, fun post H => HX _ (br_f (nI_ge (by omega) (by omega)) H), fun post H => HY _ (rE_0 E hp (by omega) (by omega) (br_t rfl H))⟩
end
