/-! the loop of both -/
theorem fw_V_b2 {sp S S' i i' : Nat} (h : S' + 1 ≤ S) : fw_V sp S' i' < fw_V sp S i := by
  unfold fw_V
  omega
theorem fw_V_1 {sp S i : Nat} (h : i < 40) : 0 < fw_V sp S i := by
  unfold fw_V
  omega
section
variable {xic xoc xfc xhf xil xll xol xea xwr xcu xfo xsp xpo xbl xli xvu yic ysz yfd yls ymd ysa ytk ydp yps ybi ysp yus ynx yra yrd : Int32} {iK iA iB xM xO xS FK FA FB FM inp lst out vs xR xL yO yN yS yT : Nat → Int32}
variable {N fd : Nat} {w : Bool}
theorem rr_main (hN : N ≤ 40) (hfd : fd ≤ 64) (G : fw_Good FK FM N) (hIt : ∀ j, j < N → fw_It (FK j) (FA j)) : ∀ (m i sp p b lim S us ll dp : Nat) (xfo ynx yra : Int32) (lst out vs xR xL yO yN : Nat → Int32), fw_V sp S i ≤ m → sp ≤ 400 → i ≤ N → p ≤ lim → b ≤ 7 → (0 < b → 0 < p) → us ≤ ll → ll ≤ 40 → fw_R FK xR xL yO yN (fw_base w fd) lim S (fw_st FK i) → dp = (fw_st FK i).length →
    ∃ (r ea cu fo st li vu yd yp yb ys yu yn yr : Int32) (L P B : Nat) (lst' out' vs' xR' xL' yO' yN' : Nat → Int32), L ≤ 40 ∧ P ≤ 64 ∧ B ≤ 7 ∧ (0 < B → 0 < P) ∧ (w = true → yp = nI P ∧ yb = nI B) ∧ (∀ (post : Int32 → SX → Prop) (n vis : Nat), vis + fw_V sp S i < 1000000 → fw_V sp S i < n → post r (xic, xoc, nI N, xhf, nI fd, nI L, xol, ea, fw_w w, cu, fo, st, nI P, nI B, li, vu, iK, iA, iB, xM, xO, xS, FK, FA, FB, FM, inp, lst', out', vs', xR', xL') → wX_runFormat_8 post n 0 (nI vis) xic xoc (nI N) xhf (nI fd) (nI ll) xol xea (fw_w w) (nI i) xfo (nI sp) (nI p) (nI b) (nI lim) (nI us) iK iA iB xM xO xS FK FA FB FM inp lst out vs xR xL) ∧ (∃ nY : Nat, ∀ post : Int32 → SY → Prop, post r (yic, nI N, nI fd, nI L, ymd, ea, nI P, yd, yp, yb, ys, yu, yn, yr, fw_r w, iK, iA, iB, FK, FA, FB, inp, lst', out', vs', yO', yN', yS, yT) → wY_run_50 post nY 0 (nI i) yic (nI N) (nI fd) (nI ll) ymd ysa ytk (nI dp) (nI p) (nI b) (nI sp) (nI us) ynx yra (fw_r w) iK iA iB FK FA FB inp lst out vs yO yN yS yT) := by
  have W := G.1
  have hK : ∀ j, j < N → ∃ c : Nat, c ≤ 13 ∧ FK j = nI c := by
    intro j hj
    obtain ⟨c, q1, q2, _⟩ := hIt j hj
    exact ⟨c, q1, q2⟩
  have hbase : fw_base w fd ≤ 64 := by
    unfold fw_base
    cases w with
    | false => exact hfd
    | true => exact Nat.le_refl _
  intro m
  induction m with
  | zero =>
    intro i sp p b lim S us ll dp xfo ynx yra lst out vs xR xL yO yN hV hsp hi hp hb hbp hus hll R hd
    have hl64 := fw_R_le _ _ _ R
    rcases Nat.lt_or_ge i N with hlt | hge
    · have := fw_V_1 (sp := sp) (S := S) (i := i) (by omega)
      omega
    · have e : i = N := by omega
      rw [e]
      obtain ⟨r, ea, B, k1, k2, KX, KY⟩ := rm_end (w := w) (b := b) (p := p) (us := us) (ll := ll) (sp := sp) (dp := dp) (lim := lim) hN hfd (by omega) hb hbp (by omega) hll (xic := xic) (xoc := xoc) (xhf := xhf) (xol := xol) (xea := xea) (xfo := xfo) (iK := iK) (iA := iA) (iB := iB) (xM := xM) (xO := xO) (xS := xS) (FK := FK) (FA := FA) (FB := FB) (FM := FM) (inp := inp) (lst := lst) (out := out) (vs := vs) (xR := xR) (xL := xL) (yic := yic) (ymd := ymd) (ysa := ysa) (ytk := ytk) (ynx := ynx) (yra := yra) (yO := yO) (yN := yN) (yS := yS) (yT := yT)
      refine ⟨r, ea, nI N, xfo, nI sp, nI lim, nI us, nI dp, nI p, nI B, nI sp, nI us, ynx, nI p, ll, p, B, lst, out, vs, xR, xL, yO, yN, hll, by omega, k1, k2, fun _ => ⟨rfl, rfl⟩, fun post n vis hv hn H => ?_, 1, fun post H => KY post 0 H⟩
      obtain ⟨k, rfl⟩ : ∃ k, n = k + 1 := ⟨n - 1, by omega⟩
      exact KX post k vis (by omega) H
  | succ m ih =>
    intro i sp p b lim S us ll dp xfo ynx yra lst out vs xR xL yO yN hV hsp hi hp hb hbp hus hll R hd
    have hl64 := fw_R_le _ _ _ R
    rcases Nat.lt_or_ge i N with hlt | hge
    · have V1 := fw_V_1 (sp := sp) (S := S) (i := i) (by omega)
      have hi40 : i < 40 := by omega
      have ci : (nI i).toNatClampNeg = i := nI_clamp (by omega)
      have vi : vp_in (nI i) 40 := vp_in_nI hi40 (by omega)
      have cN : ¬ nI N ≤ nI i := nI_ge (by omega) (by omega)
      have E : fr_E FK xR xL yO yN N fd lim S i dp w := ⟨W, hN, hlt, hfd, R, hd, by omega⟩
      obtain ⟨c, hc, kc⟩ := hK i hlt
      have eK : FK (nI i).toNatClampNeg = nI c := by rw [ci]; exact kc
      by_cases hc11 : c ≤ 11
      · rcases rr_prep (w := w) (N := N) (fd := fd) (lim := lim) (dp := dp) (xR := xR) (xL := xL) (yO := yO) (yN := yN) hc11 kc hi40 hsp (by omega) hb hbp hus hll (xic := xic) (xoc := xoc) (xhf := xhf) (xol := xol) (xea := xea) (iK := iK) (iA := iA) (iB := iB) (xM := xM) (xO := xO) (xS := xS) (FA := FA) (FB := FB) (FM := FM) (inp := inp) (lst := lst) (out := out) (vs := vs) (yic := yic) (ymd := ymd) (ysa := ysa) (ytk := ytk) (yra := nI p) (yS := yS) (yT := yT) (xfo := nI (i + 1)) (ynx := nI (i + 1)) with ⟨r, sp1, sp2, b1, hr, hb1, hbp1, PX, PY⟩ | ⟨h4, b1, hb1, hbp1, hl, hu, PX, PY⟩
        · -- ended before the item itself
          refine ⟨r, nI i, nI i, nI (i + 1), nI sp1, nI lim, nI us, nI dp, nI p, nI b1, nI sp2, nI us, nI (i + 1), nI p, ll, p, b1, lst, out, vs, xR, xL, yO, yN, hll, by omega, hb1, hbp1, fun _ => ⟨rfl, rfl⟩, fun post n vis hv hn H => ?_, 2, fun post H => br_f cN (br_t rfl (nm_r (nI_1 i) (PY _ (br_f hr (rm_fY hr H)))))⟩
          obtain ⟨k, rfl⟩ : ∃ k, n = k + 2 := ⟨n - 2, by omega⟩
          exact br_f (nI_ge (b := 1000000) (by omega) (by decide)) (br_t rfl (br_f cN ⟨vi, nm_r eK (nm_r (nI_1 i) (PX _ (br_f hr (rm_fX2 hr H))))⟩))
        · by_cases hop : c = 4 ∨ c = 5 ∨ c = 6
          · -- an item that begins others
            have fin : ∀ (i' lim' S' dp' : Nat) (xR' xL' yO' yN' : Nat → Int32), i < i' → i' ≤ N → S' ≤ S + 32 → p ≤ lim' → fw_R FK xR' xL' yO' yN' (fw_base w fd) lim' S' (fw_st FK i') → dp' = (fw_st FK i').length → (∀ post : Int32 → SX → Prop, post 0 (xic, xoc, nI N, xhf, nI fd, nI ll, xol, xea, fw_w w, nI i, nI i', nI (sp + 1), nI p, nI b1, nI lim', nI us, iK, iA, iB, xM, xO, xS, FK, FA, FB, FM, inp, lst, out, vs, xR', xL') → wpX_doItem post (xic, xoc, nI N, xhf, nI fd, nI ll, xol, xea, fw_w w, nI i, nI (i + 1), nI (sp + 1), nI p, nI b1, nI lim, nI us, iK, iA, iB, xM, xO, xS, FK, FA, FB, FM, inp, lst, out, vs, xR, xL) (nI c) (FA i) (FB i)) → (∃ k : Nat, ∀ (post : Int32 → SY → Prop) (n : Nat), wY_run_50 post n 0 (nI i') yic (nI N) (nI fd) (nI ll) ymd ysa ytk (nI dp') (nI p) (nI b1) (nI (sp + 1)) (nI us) (nI i') (nI p) (fw_r w) iK iA iB FK FA FB inp lst out vs yO' yN' yS yT → wY_run_50 post (n + k) 0 (nI i) yic (nI N) (nI fd) (nI ll) ymd ysa ytk (nI dp) (nI p) (nI b) (nI sp) (nI us) ynx yra (fw_r w) iK iA iB FK FA FB inp lst out vs yO yN yS yT) → ∃ (r ea cu fo st li vu yd yp yb ys yu yn yr : Int32) (L P B : Nat) (lst' out' vs' xR' xL' yO' yN' : Nat → Int32), L ≤ 40 ∧ P ≤ 64 ∧ B ≤ 7 ∧ (0 < B → 0 < P) ∧ (w = true → yp = nI P ∧ yb = nI B) ∧ (∀ (post : Int32 → SX → Prop) (n vis : Nat), vis + fw_V sp S i < 1000000 → fw_V sp S i < n → post r (xic, xoc, nI N, xhf, nI fd, nI L, xol, ea, fw_w w, cu, fo, st, nI P, nI B, li, vu, iK, iA, iB, xM, xO, xS, FK, FA, FB, FM, inp, lst', out', vs', xR', xL') → wX_runFormat_8 post n 0 (nI vis) xic xoc (nI N) xhf (nI fd) (nI ll) xol xea (fw_w w) (nI i) xfo (nI sp) (nI p) (nI b) (nI lim) (nI us) iK iA iB xM xO xS FK FA FB FM inp lst out vs xR xL) ∧ (∃ nY : Nat, ∀ post : Int32 → SY → Prop, post r (yic, nI N, nI fd, nI L, ymd, ea, nI P, yd, yp, yb, ys, yu, yn, yr, fw_r w, iK, iA, iB, FK, FA, FB, inp, lst', out', vs', yO', yN', yS, yT) → wY_run_50 post nY 0 (nI i) yic (nI N) (nI fd) (nI ll) ymd ysa ytk (nI dp) (nI p) (nI b) (nI sp) (nI us) ynx yra (fw_r w) iK iA iB FK FA FB inp lst out vs yO yN yS yT) := by
              intro i' lim' S' dp' xR' xL' yO' yN' g1 g2 g3 g4 g5 g6 HX ⟨k, HY⟩
              have V2 := fw_V_step (S := S) (S' := S') (i := i) (i' := i') h4 g3 g1 (by omega)
              obtain ⟨r, ea, cu, fo, st, li, vu, yd, yp, yb, ys, yu, yn, yr, L, P, B, lst', out', vs', xR2, xL2, yO2, yN2, q1, q2, q3, q4, q5, KX, nY, KY⟩ := ih i' (sp + 1) p b1 lim' S' us ll dp' (nI i') (nI i') (nI p) lst out vs xR' xL' yO' yN' (by omega) (by omega) g2 g4 hb1 hbp1 hus hll g5 g6
              refine ⟨r, ea, cu, fo, st, li, vu, yd, yp, yb, ys, yu, yn, yr, L, P, B, lst', out', vs', xR2, xL2, yO2, yN2, q1, q2, q3, q4, q5, fun post n vis hv hn H => ?_, nY + k, fun post H => HY post nY (KY post H)⟩
              obtain ⟨k, rfl⟩ : ∃ k, n = k + 1 := ⟨n - 1, by omega⟩
              refine br_f (nI_ge (b := 1000000) (by omega) (by decide)) (br_t rfl (br_f cN ⟨vi, nm_r eK (nm_r (nI_1 i) (PX _ (br_t rfl ⟨vi, vi, ?_⟩)))⟩))
              rw [ci]
              exact HX _ (br_t rfl (nm_r (nI_1 vis) (KX post k (vis + 1) (by omega) (by omega) H)))
            have bad : ∀ r : Int32, r ≠ 0 → (∀ post : Int32 → SX → Prop, post r (xic, xoc, nI N, xhf, nI fd, nI ll, xol, xea, fw_w w, nI i, nI (i + 1), nI (sp + 1), nI p, nI b1, nI lim, nI us, iK, iA, iB, xM, xO, xS, FK, FA, FB, FM, inp, lst, out, vs, xR, xL) → wpX_doItem post (xic, xoc, nI N, xhf, nI fd, nI ll, xol, xea, fw_w w, nI i, nI (i + 1), nI (sp + 1), nI p, nI b1, nI lim, nI us, iK, iA, iB, xM, xO, xS, FK, FA, FB, FM, inp, lst, out, vs, xR, xL) (nI c) (FA i) (FB i)) → (∀ post : Int32 → SY → Prop, post r (yic, nI N, nI fd, nI ll, ymd, ysa, ytk, nI dp, nI p, nI b1, nI (sp + 1), nI us, nI (i + 1), nI p, fw_r w, iK, iA, iB, FK, FA, FB, inp, lst, out, vs, yO, yN, yS, yT) → wY_item_113 post (nI i) (nI c) yic (nI N) (nI fd) (nI ll) ymd ysa ytk (nI dp) (nI p) (nI b1) (nI (sp + 1)) (nI us) (nI (i + 1)) (nI p) (fw_r w) iK iA iB FK FA FB inp lst out vs yO yN yS yT) → ∃ (r ea cu fo st li vu yd yp yb ys yu yn yr : Int32) (L P B : Nat) (lst' out' vs' xR' xL' yO' yN' : Nat → Int32), L ≤ 40 ∧ P ≤ 64 ∧ B ≤ 7 ∧ (0 < B → 0 < P) ∧ (w = true → yp = nI P ∧ yb = nI B) ∧ (∀ (post : Int32 → SX → Prop) (n vis : Nat), vis + fw_V sp S i < 1000000 → fw_V sp S i < n → post r (xic, xoc, nI N, xhf, nI fd, nI L, xol, ea, fw_w w, cu, fo, st, nI P, nI B, li, vu, iK, iA, iB, xM, xO, xS, FK, FA, FB, FM, inp, lst', out', vs', xR', xL') → wX_runFormat_8 post n 0 (nI vis) xic xoc (nI N) xhf (nI fd) (nI ll) xol xea (fw_w w) (nI i) xfo (nI sp) (nI p) (nI b) (nI lim) (nI us) iK iA iB xM xO xS FK FA FB FM inp lst out vs xR xL) ∧ (∃ nY : Nat, ∀ post : Int32 → SY → Prop, post r (yic, nI N, nI fd, nI L, ymd, ea, nI P, yd, yp, yb, ys, yu, yn, yr, fw_r w, iK, iA, iB, FK, FA, FB, inp, lst', out', vs', yO', yN', yS, yT) → wY_run_50 post nY 0 (nI i) yic (nI N) (nI fd) (nI ll) ymd ysa ytk (nI dp) (nI p) (nI b) (nI sp) (nI us) ynx yra (fw_r w) iK iA iB FK FA FB inp lst out vs yO yN yS yT) := by
              intro r hr HX HY
              refine ⟨r, nI i, nI i, nI (i + 1), nI (sp + 1), nI lim, nI us, nI dp, nI p, nI b1, nI (sp + 1), nI us, nI (i + 1), nI p, ll, p, b1, lst, out, vs, xR, xL, yO, yN, hll, by omega, hb1, hbp1, fun _ => ⟨rfl, rfl⟩, fun post n vis hv hn H => ?_, 2, fun post H => br_f cN (br_t rfl (nm_r (nI_1 i) (PY _ (HY _ (br_f hr (rm_fY hr H))))))⟩
              obtain ⟨k, rfl⟩ : ∃ k, n = k + 2 := ⟨n - 2, by omega⟩
              refine br_f (nI_ge (b := 1000000) (by omega) (by decide)) (br_t rfl (br_f cN ⟨vi, nm_r eK (nm_r (nI_1 i) (PX _ (br_t rfl ⟨vi, vi, ?_⟩)))⟩))
              rw [ci]
              exact HX _ (rm_fX2 hr H)
            rcases hop with rfl | rfl | rfl
            · rcases rs_4 (sp := sp + 1) (b := b1) (us := us) (ll := ll) E G hK hp kc (xic := xic) (xoc := xoc) (xhf := xhf) (xol := xol) (xea := xea) (iK := iK) (iA := iA) (iB := iB) (xM := xM) (xO := xO) (xS := xS) (FA := FA) (FB := FB) (FM := FM) (inp := inp) (lst := lst) (out := out) (vs := vs) (yic := yic) (ymd := ymd) (ysa := ysa) (ytk := ytk) (yra := nI p) (yS := yS) (yT := yT) with ⟨r, hr, HX, HY⟩ | ⟨i', lim', S', dp', xR', xL', yO', yN', g1, g2, g3, g4, g5, g6, HX, HY⟩
              · exact bad r hr HX HY
              · exact fin i' lim' S' dp' xR' xL' yO' yN' g1 g2 g3 g4 g5 g6 HX ⟨1, fun post n K => br_f cN (br_t rfl (nm_r (nI_1 i) (PY _ (HY _ (br_t rfl K)))))⟩
            · rcases rs_5 (sp := sp + 1) (b := b1) (us := us) (ll := ll) E G hK hp kc (xic := xic) (xoc := xoc) (xhf := xhf) (xol := xol) (xea := xea) (iK := iK) (iA := iA) (iB := iB) (xM := xM) (xO := xO) (xS := xS) (FA := FA) (FB := FB) (FM := FM) (inp := inp) (lst := lst) (out := out) (vs := vs) (yic := yic) (ymd := ymd) (ysa := ysa) (ytk := ytk) (yra := nI p) (yS := yS) (yT := yT) with (⟨r, hr, HX, HY⟩ | ⟨i', lim', S', dp', xR', xL', yO', yN', g1, g2, g3, g4, g5, g6, HX, HY⟩) | ⟨t, mm, t1, t2, t3, t4, t5, t6, HX, HY⟩
              · exact bad r hr HX HY
              · exact fin i' lim' S' dp' xR' xL' yO' yN' g1 g2 g3 g4 g5 g6 HX ⟨1, fun post n K => br_f cN (br_t rfl (nm_r (nI_1 i) (PY _ (HY _ (br_t rfl K)))))⟩
              · have cT : ¬ nI N ≤ nI t := nI_ge (by omega) (by omega)
                refine fin (t + 1) lim S dp xR xL (upd yO dp (nI i)) (upd yN dp mm) (by omega) (by omega) (by omega) hp (by rw [t5]; exact t6) (by rw [t5]; exact hd) HX ⟨2, fun post n K => br_f cN (br_t rfl (nm_r (nI_1 i) (PY _ (HY _ (br_t rfl ?_)))))⟩
                exact br_f cT (br_t rfl (nm_r (nI_1 t) (rs_5e (by omega) hi40 t4 kc t3 (br_t rfl K))))
            · rcases rs_6 (sp := sp + 1) (b := b1) (us := us) (ll := ll) E hp kc (xic := xic) (xoc := xoc) (xhf := xhf) (xol := xol) (xea := xea) (iK := iK) (iA := iA) (iB := iB) (xM := xM) (xO := xO) (xS := xS) (FA := FA) (FB := FB) (FM := FM) (inp := inp) (lst := lst) (out := out) (vs := vs) (yic := yic) (ymd := ymd) (ysa := ysa) (ytk := ytk) (yra := nI p) (yS := yS) (yT := yT) with ⟨r, hr, HX, HY⟩ | ⟨i', lim', S', dp', xR', xL', yO', yN', g1, g2, g3, g4, g5, g6, HX, HY⟩
              · exact bad r hr HX HY
              · exact fin i' lim' S' dp' xR' xL' yO' yN' g1 g2 g3 g4 g5 g6 HX ⟨1, fun post n K => br_f cN (br_t rfl (nm_r (nI_1 i) (PY _ (HY _ (br_t rfl K)))))⟩
          · -- a plain item
            have nop : ¬ fw_Op FK i := by
              intro z0
              have z : FK i = 4 ∨ FK i = 5 ∨ FK i = 6 := z0
              rw [kc] at z
              apply hop
              rcases z with z | z | z
              · exact Or.inl ((nI_eq (b := 4) (by omega) (by omega)).mp z)
              · exact Or.inr (Or.inl ((nI_eq (b := 5) (by omega) (by omega)).mp z))
              · exact Or.inr (Or.inr ((nI_eq (b := 6) (by omega) (by omega)).mp z))
            have n12 : ¬ FK i = 12 := by rw [kc]; exact rx_nl (m := 12) (by omega) (by omega) (by omega)
            have n13 : ¬ FK i = 13 := by rw [kc]; exact rx_nl (m := 13) (by omega) (by omega) (by omega)
            have hst := fw_st_no nop n12 n13
            rcases rf_all (sp := sp + 1) E hp hb1 hbp1 hus hll hc11 hop kc (hIt i hlt) hl hu (xic := xic) (xoc := xoc) (xhf := xhf) (xol := xol) (xea := xea) (iK := iK) (iA := iA) (iB := iB) (xM := xM) (xO := xO) (xS := xS) (FA := FA) (FB := FB) (FM := FM) (inp := inp) (lst := lst) (out := out) (vs := vs) (yic := yic) (ymd := ymd) (ysa := ysa) (ytk := ytk) (yra := nI p) (yS := yS) (yT := yT) (xfo := nI (i + 1)) (ynx := nI (i + 1)) with ⟨r, q, hr, hq, HX, HY⟩ | ⟨p', b', us', ll', lst1, out1, vs1, g1, g2, g3, g4, g5, HX, HY⟩
            · refine ⟨r, nI i, nI i, nI (i + 1), nI (sp + 1), nI lim, nI us, nI dp, q, nI b1, nI (sp + 1), nI us, nI (i + 1), nI p, ll, p, b1, lst, out, vs, xR, xL, yO, yN, hll, by omega, hb1, hbp1, fun z => ⟨hq z, rfl⟩, fun post n vis hv hn H => ?_, 2, fun post H => br_f cN (br_t rfl (nm_r (nI_1 i) (PY _ (HY _ (br_f hr ?_)))))⟩
              · obtain ⟨k, rfl⟩ : ∃ k, n = k + 2 := ⟨n - 2, by omega⟩
                refine br_f (nI_ge (b := 1000000) (by omega) (by decide)) (br_t rfl (br_f cN ⟨vi, nm_r eK (nm_r (nI_1 i) (PX _ (br_t rfl ⟨vi, vi, ?_⟩)))⟩))
                rw [ci]
                exact HX _ (rm_fX2 hr H)
              · exact br_c (fun _ => br_f hr (br_f hr H)) (fun _ => br_f hr (br_f hr (br_f hr H)))
            · have V2 := fw_V_step (S := S) (S' := S) (i := i) (i' := i + 1) h4 (by omega) (by omega) (by omega)
              obtain ⟨r, ea, cu, fo, st, li, vu, yd, yp, yb, ys, yu, yn, yr, L, P, B, lst', out', vs', xR2, xL2, yO2, yN2, q1, q2, q3, q4, q5, KX, nY, KY⟩ := ih (i + 1) (sp + 1) p' b' lim S us' ll' dp (nI (i + 1)) (nI (i + 1)) (nI p) lst1 out1 vs1 xR xL yO yN (by omega) (by omega) (by omega) g1 g2 g3 g4 g5 (by rw [hst]; exact R) (by rw [hst]; exact hd)
              refine ⟨r, ea, cu, fo, st, li, vu, yd, yp, yb, ys, yu, yn, yr, L, P, B, lst', out', vs', xR2, xL2, yO2, yN2, q1, q2, q3, q4, q5, fun post n vis hv hn H => ?_, nY + 1, fun post H => br_f cN (br_t rfl (nm_r (nI_1 i) (PY _ (HY _ (br_t rfl (KY post H))))))⟩
              obtain ⟨k, rfl⟩ : ∃ k, n = k + 1 := ⟨n - 1, by omega⟩
              refine br_f (nI_ge (b := 1000000) (by omega) (by decide)) (br_t rfl (br_f cN ⟨vi, nm_r eK (nm_r (nI_1 i) (PX _ (br_t rfl ⟨vi, vi, ?_⟩)))⟩))
              rw [ci]
              exact HX _ (br_t rfl (nm_r (nI_1 vis) (KX post k (vis + 1) (by omega) (by omega) H)))
      · by_cases hc12 : c = 12
        · -- ELSE
          subst hc12
          obtain ⟨i', g1, g2, g3, g4, HX, HY⟩ := rs_12 (sp := sp) (p := p) (b := b) (us := us) (ll := ll) E G hK kc (xic := xic) (xoc := xoc) (xhf := xhf) (xol := xol) (xea := xea) (iK := iK) (iA := iA) (iB := iB) (xM := xM) (xO := xO) (xS := xS) (FA := FA) (FB := FB) (FM := FM) (inp := inp) (lst := lst) (out := out) (vs := vs) (yic := yic) (ymd := ymd) (ysa := ysa) (ytk := ytk) (yra := nI p) (yS := yS) (yT := yT)
          have V2 := fw_V_on (sp := sp) (S := S) (S' := S) (i := i) (i' := i') (by omega) g1 (by omega)
          obtain ⟨r, ea, cu, fo, st, li, vu, yd, yp, yb, ys, yu, yn, yr, L, P, B, lst', out', vs', xR2, xL2, yO2, yN2, q1, q2, q3, q4, q5, KX, nY, KY⟩ := ih i' sp p b lim S us ll dp (nI i') (nI i') (nI p) lst out vs xR xL yO yN (by omega) hsp g2 hp hb hbp hus hll g3 g4
          refine ⟨r, ea, cu, fo, st, li, vu, yd, yp, yb, ys, yu, yn, yr, L, P, B, lst', out', vs', xR2, xL2, yO2, yN2, q1, q2, q3, q4, q5, fun post n vis hv hn H => ?_, nY + 1, fun post H => br_f cN (br_t rfl (nm_r (nI_1 i) (HY _ (br_t rfl (KY post H)))))⟩
          obtain ⟨k, rfl⟩ : ∃ k, n = k + 1 := ⟨n - 1, by omega⟩
          refine br_f (nI_ge (b := 1000000) (by omega) (by decide)) (br_t rfl (br_f cN ⟨vi, nm_r eK (nm_r (nI_1 i) (br_t (by decide) (br_t rfl ⟨vi, vi, ?_⟩)))⟩))
          rw [ci]
          exact HX _ (br_t rfl (nm_r (nI_1 vis) (KX post k (vis + 1) (by omega) (by omega) H)))
        · -- END
          have hc13 : c = 13 := by omega
          subst hc13
          rcases rs_13 (sp := sp) (us := us) (ll := ll) E G hp hb hbp kc (xic := xic) (xoc := xoc) (xhf := xhf) (xol := xol) (xea := xea) (iK := iK) (iA := iA) (iB := iB) (xM := xM) (xO := xO) (xS := xS) (FA := FA) (FB := FB) (FM := FM) (inp := inp) (lst := lst) (out := out) (vs := vs) (yic := yic) (ymd := ymd) (ysa := ysa) (ytk := ytk) (yra := nI p) (yS := yS) (yT := yT) with ⟨r, b1, hr, hb1, hbp1, HX, HY⟩ | ⟨i', lim', S', dp', b1, xR', yN', g1, g2, g3, hb1, hbp1, g5, g6, HX, HY⟩
          · refine ⟨r, nI i, nI i, nI (i + 1), nI sp, nI lim, nI us, nI dp, nI p, nI b1, nI sp, nI us, nI (i + 1), nI p, ll, p, b1, lst, out, vs, xR, xL, yO, yN, hll, by omega, hb1, hbp1, fun _ => ⟨rfl, rfl⟩, fun post n vis hv hn H => ?_, 2, fun post H => br_f cN (br_t rfl (nm_r (nI_1 i) (HY _ (br_f hr (rm_fY hr H)))))⟩
            obtain ⟨k, rfl⟩ : ∃ k, n = k + 2 := ⟨n - 2, by omega⟩
            refine br_f (nI_ge (b := 1000000) (by omega) (by decide)) (br_t rfl (br_f cN ⟨vi, nm_r eK (nm_r (nI_1 i) (br_f (by decide) (br_t (by decide) (br_t rfl ⟨vi, vi, ?_⟩))))⟩))
            rw [ci]
            exact HX _ (rm_fX2 hr H)
          · have V2 : fw_V sp S' i' < fw_V sp S i := by
              rcases g2 with g2 | g2
              · exact fw_V_b2 g2
              · exact fw_V_on g2.1 g2.2 (by omega)
            obtain ⟨r, ea, cu, fo, st, li, vu, yd, yp, yb, ys, yu, yn, yr, L, P, B, lst', out', vs', xR2, xL2, yO2, yN2, q1, q2, q3, q4, q5, KX, nY, KY⟩ := ih i' sp p b1 lim' S' us ll dp' (nI i') (nI i') (nI p) lst out vs xR' xL yO yN' (by omega) hsp g1 g3 hb1 hbp1 hus hll g5 g6
            refine ⟨r, ea, cu, fo, st, li, vu, yd, yp, yb, ys, yu, yn, yr, L, P, B, lst', out', vs', xR2, xL2, yO2, yN2, q1, q2, q3, q4, q5, fun post n vis hv hn H => ?_, nY + 1, fun post H => br_f cN (br_t rfl (nm_r (nI_1 i) (HY _ (br_t rfl (KY post H)))))⟩
            obtain ⟨k, rfl⟩ : ∃ k, n = k + 1 := ⟨n - 1, by omega⟩
            refine br_f (nI_ge (b := 1000000) (by omega) (by decide)) (br_t rfl (br_f cN ⟨vi, nm_r eK (nm_r (nI_1 i) (br_f (by decide) (br_t (by decide) (br_t rfl ⟨vi, vi, ?_⟩))))⟩))
            rw [ci]
            exact HX _ (br_t rfl (nm_r (nI_1 vis) (KX post k (vis + 1) (by omega) (by omega) H)))
    · have e : i = N := by omega
      rw [e]
      obtain ⟨r, ea, B, k1, k2, KX, KY⟩ := rm_end (w := w) (b := b) (p := p) (us := us) (ll := ll) (sp := sp) (dp := dp) (lim := lim) hN hfd (by omega) hb hbp (by omega) hll (xic := xic) (xoc := xoc) (xhf := xhf) (xol := xol) (xea := xea) (xfo := xfo) (iK := iK) (iA := iA) (iB := iB) (xM := xM) (xO := xO) (xS := xS) (FK := FK) (FA := FA) (FB := FB) (FM := FM) (inp := inp) (lst := lst) (out := out) (vs := vs) (xR := xR) (xL := xL) (yic := yic) (ymd := ymd) (ysa := ysa) (ytk := ytk) (ynx := ynx) (yra := yra) (yO := yO) (yN := yN) (yS := yS) (yT := yT)
      refine ⟨r, ea, nI N, xfo, nI sp, nI lim, nI us, nI dp, nI p, nI B, nI sp, nI us, ynx, nI p, ll, p, B, lst, out, vs, xR, xL, yO, yN, hll, by omega, k1, k2, fun _ => ⟨rfl, rfl⟩, fun post n vis hv hn H => ?_, 1, fun post H => KY post 0 H⟩
      obtain ⟨k, rfl⟩ : ∃ k, n = k + 1 := ⟨n - 1, by omega⟩
      exact KX post k vis (by omega) H
end
