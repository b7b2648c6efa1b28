/-! the numbers that a parse takes: INT, VAR, BITS -/
def fq (a b : Nat) : Nat := if a ≤ b then 0 else (a - b + 7) / 8
theorem fq_le {a b l : Nat} (h : fq a b ≤ l) : a ≤ b + 8 * l := by
  unfold fq at h
  by_cases z : a ≤ b
  · omega
  · rw [if_neg z] at h
    omega
theorem fq_lt {a b : Nat} (ha : a ≤ 16) : fq a b ≤ 16 := by
  unfold fq
  by_cases z : a ≤ b
  · rw [if_pos z]; omega
  · rw [if_neg z]; omega
theorem fv_127 (t : Int32) : t ≤ 127 ↔ ¬ 128 ≤ t := by
  rw [Int32.le_iff_toInt_le, Int32.le_iff_toInt_le, show (127 : Int32).toInt = 127 by decide, show (128 : Int32).toInt = 128 by decide]
  omega
theorem fv_15 {t : Int32} (h : ¬ 15 < t) : t ≤ 127 := by
  rw [Int32.lt_iff_toInt_lt, show (15 : Int32).toInt = 15 by decide] at h
  rw [Int32.le_iff_toInt_le, show (127 : Int32).toInt = 127 by decide]
  omega
section
variable {xic xoc xfc xhf xil xll xol xea xwr xcu xfo xsp xpo xbl xli xvu yic ysz yfd yls ymd ysa ytk ydp yps ybi ysp yus ynx yra yrd : Int32} {iK iA iB xM xO xS FK FA FB FM inp lst out vs xR xL yO yN yS yT : Nat → Int32}
variable {N fd ll i sp p b lim us dp base S : Nat} {w : Bool}
theorem rx_kr {post : SX → Prop} {v : Nat} {x : Int32} (hl : ll < 40) (hv : v < 8) (H : post (xic, xoc, nI N, xhf, nI fd, nI (ll + 1), xol, xea, fw_w w, nI i, xfo, nI sp, nI p, nI b, nI lim, nI us, iK, iA, iB, xM, xO, xS, FK, FA, FB, FM, inp, upd lst ll x, out, upd vs v x, xR, xL)) : wpX_keepRead post (xic, xoc, nI N, xhf, nI fd, nI ll, xol, xea, fw_w w, nI i, xfo, nI sp, nI p, nI b, nI lim, nI us, iK, iA, iB, xM, xO, xS, FK, FA, FB, FM, inp, lst, out, vs, xR, xL) x (nI v) := by
  have cl : (nI ll).toNatClampNeg = ll := nI_clamp (by omega)
  have cv : (nI v).toNatClampNeg = v := nI_clamp (by omega)
  exact ⟨vp_in_nI hl (by omega), nm_r (by rw [cl]) (nm_r (nI_1 ll) ⟨vp_in_nI hv (by omega), nm_r (by rw [cv]) H⟩)⟩
theorem ry_kp {post : Int32 → SY → Prop} {v : Nat} {x : Int32} (hl : ll < 40) (hv : v < 8) (H : post 0 (yic, nI N, nI fd, nI (ll + 1), ymd, ysa, ytk, nI dp, nI p, nI b, nI sp, nI us, ynx, yra, fw_r w, iK, iA, iB, FK, FA, FB, inp, upd lst ll x, out, upd vs v x, yO, yN, yS, yT)) : wpY_keep post (yic, nI N, nI fd, nI ll, ymd, ysa, ytk, nI dp, nI p, nI b, nI sp, nI us, ynx, yra, fw_r w, iK, iA, iB, FK, FA, FB, inp, lst, out, vs, yO, yN, yS, yT) (nI v) x := by
  have cl : (nI ll).toNatClampNeg = ll := nI_clamp (by omega)
  have cv : (nI v).toNatClampNeg = v := nI_clamp (by omega)
  exact ⟨vp_in_nI hv (by omega), nm_r (by rw [cv]) (nm_r (nI_1 ll) ⟨vp_in_nI hl (by omega), nm_r (by rw [cl]) H⟩)⟩
/-! INT -/
theorem ri_X {post : Int32 → SX → Prop} {a : Nat} {fl : Int32} {f : Nat → Int32} (hpa : p + a ≤ 64) (h0 : (fl &&& 8) = 0 → ∀ j, j < a → f j = inp (p + j)) (h1 : ¬ (fl &&& 8) = 0 → ∀ j, j < a → f j = inp (p + (a - 1 - j))) (H : ((fl &&& 16) = 0 → wX_readInt_84 post (nI a) fl (fr_X f a) xic xoc (nI N) xhf (nI fd) (nI ll) xol xea (fw_w w) (nI i) xfo (nI sp) (nI p) (nI b) (nI lim) (nI us) iK iA iB xM xO xS FK FA FB FM inp lst out vs xR xL) ∧ (¬ (fl &&& 16) = 0 → wpX_extendSign (fun r => wX_readInt_84 post (nI a) fl r xic xoc (nI N) xhf (nI fd) (nI ll) xol xea (fw_w w) (nI i) xfo (nI sp) (nI p) (nI b) (nI lim) (nI us) iK iA iB xM xO xS FK FA FB FM inp lst out vs xR xL) (xic, xoc, nI N, xhf, nI fd, nI ll, xol, xea, fw_w w, nI i, xfo, nI sp, nI p, nI b, nI lim, nI us, iK, iA, iB, xM, xO, xS, FK, FA, FB, FM, inp, lst, out, vs, xR, xL) (fr_X f a) (nI a))) : ∀ d j : Nat, j + d = a → wX_readInt_20 post (nI a) fl xic xoc (nI N) xhf (nI fd) (nI ll) xol xea (fw_w w) (nI i) xfo (nI sp) (nI p) (nI b) (nI lim) (nI us) iK iA iB xM xO xS FK FA FB FM inp lst out vs xR xL (d + 1) (fr_X f j) (nI j) := by
  intro d
  induction d with
  | zero =>
    intro j hj
    have e : j = a := by omega
    rw [e]
    exact br_t (nI_le (by omega) (by omega)) H
  | succ d ih =>
    intro j hj
    have K := ih (j + 1) (by omega)
    refine br_f (nI_ge (by omega) (by omega)) ?_
    by_cases z : (fl &&& 8) = 0
    · have e1 : nI p + nI j = nI (p + j) := nI_add p j
      have v1 : vp_in (nI p + nI j) 64 := by rw [e1]; exact vp_in_nI (by omega) (by omega)
      have c1 : (nI p + nI j).toNatClampNeg = p + j := by rw [e1]; exact nI_clamp (by omega)
      exact br_t z ⟨v1, nm_r (e' := fr_X f (j + 1)) (by rw [c1, ← h0 z j (by omega)]; rfl) (nm_r (nI_1 j) K)⟩
    · have e0 : (nI a - 1) - nI j = nI (a - 1 - j) := by
        have : nI a - 1 = nI (a - 1) := pk_sub (b := 1) (by omega)
        rw [this, pk_sub (by omega)]
      have e1 : nI p + ((nI a - 1) - nI j) = nI (p + (a - 1 - j)) := by rw [e0, nI_add]
      have v1 : vp_in (nI p + ((nI a - 1) - nI j)) 64 := by rw [e1]; exact vp_in_nI (by omega) (by omega)
      have c1 : (nI p + ((nI a - 1) - nI j)).toNatClampNeg = p + (a - 1 - j) := by rw [e1]; exact nI_clamp (by omega)
      exact br_f z ⟨v1, nm_r (e' := fr_X f (j + 1)) (by rw [c1, ← h1 z j (by omega)]; rfl) (nm_r (nI_1 j) K)⟩
theorem ri_Y {post : Int32 → SY → Prop} {a v : Nat} {x6 : Int32} {s : Nat → Nat} (hpa : p + a ≤ 64) (ha : a ≤ 4) (h0 : x6 = 0 → ∀ j, j < a → s j = a - 1 - j) (h1 : ¬ x6 = 0 → ∀ j, j < a → s j = j)
    (H : vp_in (nI i) 40 ∧ (((FB (nI i).toNatClampNeg &&& 16) = 0 → wY_take_168 post (nI v) (fr_Y (fun j => inp (p + j)) s a) yic (nI N) (nI fd) (nI ll) ymd ysa ytk (nI dp) (nI (p + a)) (nI b) (nI sp) (nI us) ynx yra (fw_r w) iK iA iB FK FA FB inp lst out vs yO yN yS yT) ∧ (¬ (FB (nI i).toNatClampNeg &&& 16) = 0 → ∀ x, x = ((fr_Y (fun j => inp (p + j)) s a) <<< ((32 - (8 * nI a)) &&& 31)) >>> ((32 - (8 * nI a)) &&& 31) → wY_take_168 post (nI v) x yic (nI N) (nI fd) (nI ll) ymd ysa ytk (nI dp) (nI (p + a)) (nI b) (nI sp) (nI us) ynx yra (fw_r w) iK iA iB FK FA FB inp lst out vs yO yN yS yT))) : ∀ d j : Nat, j + d = a → wY_take_72 post (nI i) (nI v) (nI a) x6 yic (nI N) (nI fd) (nI ll) ymd ysa ytk (nI dp) (nI p) (nI b) (nI sp) (nI us) ynx yra (fw_r w) iK iA iB FK FA FB inp lst out vs yO yN yS yT (d + 1) (fr_Y (fun j => inp (p + j)) s j) (nI j) := by
  intro d
  induction d with
  | zero =>
    intro j hj
    have e : j = a := by omega
    rw [e]
    exact br_t (nI_le (by omega) (by omega)) (nm_r (nI_add p a) H)
  | succ d ih =>
    intro j hj
    have K := ih (j + 1) (by omega)
    have e1 : nI p + nI j = nI (p + j) := nI_add p j
    have v1 : vp_in (nI p + nI j) 64 := by rw [e1]; exact vp_in_nI (by omega) (by omega)
    have c1 : (nI p + nI j).toNatClampNeg = p + j := by rw [e1]; exact nI_clamp (by omega)
    refine br_f (nI_ge (by omega) (by omega)) ⟨v1, ?_⟩
    by_cases z : x6 = 0
    · have e0 : (8 : Int32) * ((nI a - 1) - nI j) = nI (8 * s j) := by
        have : nI a - 1 = nI (a - 1) := pk_sub (b := 1) (by omega)
        rw [this, pk_sub (by omega), h0 z j (by omega)]
        exact pk_mul 8 _
      exact br_t z (nm_r (e' := fr_Y (fun j => inp (p + j)) s (j + 1)) (by rw [c1, e0]; rfl) (nm_r (nI_1 j) K))
    · have e0 : (8 : Int32) * nI j = nI (8 * s j) := by
        rw [h1 z j (by omega)]
        exact pk_mul 8 _
      exact br_f z (nm_r (e' := fr_Y (fun j => inp (p + j)) s (j + 1)) (by rw [c1, e0]; rfl) (nm_r (nI_1 j) K))
theorem rf_0r (E : fr_E FK xR xL yO yN N fd lim S i dp w) (hp : p ≤ lim) (hb : b ≤ 7) (hbp : 0 < b → 0 < p) (hus : us ≤ ll) (hll : ll ≤ 40) {a : Nat} (h1 : 1 ≤ a) (h4 : a ≤ 4) (ha : FA i = nI a) (hw : w = false) (hl : ll < 40) : (∃ (r q : Int32), r ≠ 0 ∧ (w = true → q = nI p) ∧ (∀ post : Int32 → SX → Prop, post r (xic, xoc, nI N, xhf, nI fd, nI ll, xol, xea, fw_w w, nI i, xfo, nI sp, nI p, nI b, nI lim, nI us, iK, iA, iB, xM, xO, xS, FK, FA, FB, FM, inp, lst, out, vs, xR, xL) → wpX_doItem post (xic, xoc, nI N, xhf, nI fd, nI ll, xol, xea, fw_w w, nI i, xfo, nI sp, nI p, nI b, nI lim, nI us, iK, iA, iB, xM, xO, xS, FK, FA, FB, FM, inp, lst, out, vs, xR, xL) (nI 0) (FA i) (FB i)) ∧ (∀ post : Int32 → SY → Prop, post r (yic, nI N, nI fd, nI ll, ymd, ysa, ytk, nI dp, q, nI b, nI sp, nI us, ynx, yra, fw_r w, iK, iA, iB, FK, FA, FB, inp, lst, out, vs, yO, yN, yS, yT) → wY_item_113 post (nI i) (nI 0) yic (nI N) (nI fd) (nI ll) ymd ysa ytk (nI dp) (nI p) (nI b) (nI sp) (nI us) ynx yra (fw_r w) iK iA iB FK FA FB inp lst out vs yO yN yS yT)) ∨ (∃ (p' b' us' ll' : Nat) (lst' out' vs' : Nat → Int32), p' ≤ lim ∧ b' ≤ 7 ∧ (0 < b' → 0 < p') ∧ us' ≤ ll' ∧ ll' ≤ 40 ∧ (∀ post : Int32 → SX → Prop, post 0 (xic, xoc, nI N, xhf, nI fd, nI ll', xol, xea, fw_w w, nI i, xfo, nI sp, nI p', nI b', nI lim, nI us', iK, iA, iB, xM, xO, xS, FK, FA, FB, FM, inp, lst', out', vs', xR, xL) → wpX_doItem post (xic, xoc, nI N, xhf, nI fd, nI ll, xol, xea, fw_w w, nI i, xfo, nI sp, nI p, nI b, nI lim, nI us, iK, iA, iB, xM, xO, xS, FK, FA, FB, FM, inp, lst, out, vs, xR, xL) (nI 0) (FA i) (FB i)) ∧ (∀ post : Int32 → SY → Prop, post 0 (yic, nI N, nI fd, nI ll', ymd, ysa, ytk, nI dp, nI p', nI b', nI sp, nI us', ynx, yra, fw_r w, iK, iA, iB, FK, FA, FB, inp, lst', out', vs', yO, yN, yS, yT) → wY_item_113 post (nI i) (nI 0) yic (nI N) (nI fd) (nI ll) ymd ysa ytk (nI dp) (nI p) (nI b) (nI sp) (nI us) ynx yra (fw_r w) iK iA iB FK FA FB inp lst out vs yO yN yS yT)) := by
  obtain ⟨hi, hlim, ci, vi⟩ := rE_i E
  obtain ⟨v, hv, ev, vv, cv⟩ := rE_v (FB i)
  have ev' : FB (nI i).toNatClampNeg &&& 7 = nI v := by rw [ci]; exact ev
  have eb : FB (nI i).toNatClampNeg = FB i := by rw [ci]
  have ea : FA (nI i).toNatClampNeg = nI a := by rw [ci]; exact ha
  have esub : nI lim - nI p = nI (lim - p) := pk_sub hp
  subst hw
  by_cases h : p + a ≤ lim
  · -- the number
    have cX : nI a ≤ nI lim - nI p := by rw [esub]; exact nI_le (by omega) (by omega)
    obtain ⟨f, s, g0, g1, s0, s1, heq⟩ : ∃ (f : Nat → Int32) (s : Nat → Nat), ((FB i &&& 8) = 0 → ∀ j, j < a → f j = inp (p + j)) ∧ (¬ (FB i &&& 8) = 0 → ∀ j, j < a → f j = inp (p + (a - 1 - j))) ∧ ((FB i &&& 8) = 0 → ∀ j, j < a → s j = a - 1 - j) ∧ (¬ (FB i &&& 8) = 0 → ∀ j, j < a → s j = j) ∧ fr_X f a = fr_Y (fun j => inp (p + j)) s a := by
      by_cases z : (FB i &&& 8) = 0
      · exact ⟨fun j => inp (p + j), fun j => a - 1 - j, fun _ j _ => rfl, fun y => absurd z y, fun _ j _ => rfl, fun y => absurd z y, fr_big _ h1 h4⟩
      · exact ⟨fun j => inp (p + (a - 1 - j)), fun j => j, fun y => absurd y z, fun _ j _ => rfl, fun y => absurd y z, fun _ j _ => rfl, fr_low _ _ h1 h4 (fun j hj => rfl)⟩
    obtain ⟨x, hx0, hx1⟩ : ∃ x : Int32, ((FB i &&& 16) = 0 → x = fr_X f a) ∧ (¬ (FB i &&& 16) = 0 → x = ((fr_X f a) <<< ((32 - (8 * nI a)) &&& 31)) >>> ((32 - (8 * nI a)) &&& 31)) := by
      by_cases z : (FB i &&& 16) = 0
      · exact ⟨fr_X f a, fun _ => rfl, fun y => absurd z y⟩
      · exact ⟨_, fun y => absurd y z, fun _ => rfl⟩
    refine Or.inr ⟨p + a, b, us, ll + 1, upd lst ll x, out, upd vs v x, h, hb, fun _ => by omega, by omega, hl, fun post H => ?_, fun post H => ?_⟩
    · rw [ha]
      refine nm_r ev (br_f (by decide) (br_f (by decide) (br_t (by decide) (br_t rfl (br_t cX ⟨a + 1, ri_X (by omega) g0 g1 ?_ a 0 (by omega)⟩)))))
      have K : wX_readInt_84 (fun r_74 u => match u with | (xic, xoc, xfc, xhf, xil, xll, xol, xea, xwr, xcu, xfo, xsp, xpo, xbl, xli, xvu, iK, iA, iB, xM, xO, xS, FK, FA, FB, FM, inp, lst, out, vs, xR, xL) => post r_74 (xic, xoc, xfc, xhf, xil, xll, xol, xea, xwr, xcu, xfo, xsp, xpo, xbl, xli, xvu, iK, iA, iB, xM, xO, xS, FK, FA, FB, FM, inp, lst, out, vs, xR, xL)) (nI a) (FB i) x xic xoc (nI N) xhf (nI fd) (nI ll) xol xea (fw_w false) (nI i) xfo (nI sp) (nI p) (nI b) (nI lim) (nI us) iK iA iB xM xO xS FK FA FB FM inp lst out vs xR xL := by
        refine nm_r (nI_add p a) ?_
        rw [ev]
        exact rx_kr (w := false) hl hv H
      by_cases z : (FB i &&& 16) = 0
      · rw [hx0 z] at K
        exact br_t z K
      · rw [hx1 z] at K
        exact br_f z (nm_e K)
    · refine ⟨vi, nm_r ev' (br_f (by decide) (br_f (by decide) ⟨vi, nm_r ea (br_f (by decide) (br_t (by decide) ?_))⟩))⟩
      have K : wY_take_168 (fun r_137 u => match u with | (yic, ysz, yfd, yls, ymd, ysa, ytk, ydp, yps, ybi, ysp, yus, ynx, yra, yrd, yK, yA, yB, zK, zA, zB, yin, ylst, yout, yvs, yO, yN, yS, yT) => post r_137 (yic, ysz, yfd, yls, ymd, ysa, ytk, ydp, yps, ybi, ysp, yus, ynx, yra, yrd, yK, yA, yB, zK, zA, zB, yin, ylst, yout, yvs, yO, yN, yS, yT)) (nI v) x yic (nI N) (nI fd) (nI ll) ymd ysa ytk (nI dp) (nI (p + a)) (nI b) (nI sp) (nI us) ynx yra (fw_r false) iK iA iB FK FA FB inp lst out vs yO yN yS yT := ry_kp (w := false) hl hv H
      have K2 : vp_in (nI i) 40 ∧ (((FB (nI i).toNatClampNeg &&& 16) = 0 → wY_take_168 (fun r_137 u => match u with | (yic, ysz, yfd, yls, ymd, ysa, ytk, ydp, yps, ybi, ysp, yus, ynx, yra, yrd, yK, yA, yB, zK, zA, zB, yin, ylst, yout, yvs, yO, yN, yS, yT) => post r_137 (yic, ysz, yfd, yls, ymd, ysa, ytk, ydp, yps, ybi, ysp, yus, ynx, yra, yrd, yK, yA, yB, zK, zA, zB, yin, ylst, yout, yvs, yO, yN, yS, yT)) (nI v) (fr_Y (fun j => inp (p + j)) s a) yic (nI N) (nI fd) (nI ll) ymd ysa ytk (nI dp) (nI (p + a)) (nI b) (nI sp) (nI us) ynx yra (fw_r false) iK iA iB FK FA FB inp lst out vs yO yN yS yT) ∧ (¬ (FB (nI i).toNatClampNeg &&& 16) = 0 → ∀ x, x = ((fr_Y (fun j => inp (p + j)) s a) <<< ((32 - (8 * nI a)) &&& 31)) >>> ((32 - (8 * nI a)) &&& 31) → wY_take_168 (fun r_137 u => match u with | (yic, ysz, yfd, yls, ymd, ysa, ytk, ydp, yps, ybi, ysp, yus, ynx, yra, yrd, yK, yA, yB, zK, zA, zB, yin, ylst, yout, yvs, yO, yN, yS, yT) => post r_137 (yic, ysz, yfd, yls, ymd, ysa, ytk, ydp, yps, ybi, ysp, yus, ynx, yra, yrd, yK, yA, yB, zK, zA, zB, yin, ylst, yout, yvs, yO, yN, yS, yT)) (nI v) x yic (nI N) (nI fd) (nI ll) ymd ysa ytk (nI dp) (nI (p + a)) (nI b) (nI sp) (nI us) ynx yra (fw_r false) iK iA iB FK FA FB inp lst out vs yO yN yS yT)) := by
        refine ⟨vi, ?_⟩
        rw [eb, ← heq]
        by_cases z : (FB i &&& 16) = 0
        · rw [hx0 z] at K
          exact br_t z K
        · rw [hx1 z] at K
          exact br_f z (nm_e K)
      refine rE_1 (w := false) E h (br_f (by decide) (br_t (by decide) ⟨vi, ?_⟩))
      rw [eb]
      by_cases z : (FB i &&& 8) = 0
      · exact br_t z ⟨a + 1, ri_Y (by omega) h4 (fun _ => s0 z) (fun y => absurd rfl y) K2 a 0 (by omega)⟩
      · exact br_f z ⟨a + 1, ri_Y (x6 := 1) (by omega) h4 (fun y => absurd y (by decide)) (fun _ => s1 z) K2 a 0 (by omega)⟩
  · have cX : ¬ nI a ≤ nI lim - nI p := by rw [esub]; exact nI_ge (by omega) (by omega)
    refine Or.inl ⟨3, nI p, by decide, fun _ => rfl, fun post H => ?_, fun post H => ⟨vi, nm_r ev' (br_f (by decide) (br_f (by decide) ⟨vi, nm_r ea (br_f (by decide) (br_t (by decide) ?_))⟩))⟩⟩
    · rw [ha]
      exact nm_r ev (br_f (by decide) (br_f (by decide) (br_t (by decide) (br_t rfl (br_f cX H)))))
    · exact rE_0 (w := false) E hp (by omega) (by omega) (br_t rfl H)
end
