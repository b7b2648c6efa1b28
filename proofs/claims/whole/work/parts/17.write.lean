/-! the numbers that a write gives: INT, VAR, BITS -/
def fo (B out : Nat → Int32) (lo hi : Nat) : Nat → Int32 := fun t => if lo ≤ t ∧ t < hi then B t else out t
theorem fo_0 (B out : Nat → Int32) (lo : Nat) : fo B out lo lo = out := funext fun t => if_neg (by omega)
theorem fo_s (B out : Nat → Int32) {lo hi : Nat} (h : lo ≤ hi) : upd (fo B out lo hi) hi (B hi) = fo B out lo (hi + 1) := funext fun t => by
  unfold upd fo
  by_cases e : t = hi
  · subst e
    rw [if_pos rfl, if_pos (by omega)]
  · rw [if_neg e]
    by_cases z : lo ≤ t ∧ t < hi
    · rw [if_pos z, if_pos (by omega)]
    · rw [if_neg z, if_neg (by omega)]
theorem fo_p (B out : Nat → Int32) {lo hi : Nat} (h : lo < hi) : upd (fo B out (lo + 1) hi) lo (B lo) = fo B out lo hi := funext fun t => by
  unfold upd fo
  by_cases e : t = lo
  · subst e
    rw [if_pos rfl, if_pos (by omega)]
  · rw [if_neg e]
    by_cases z : lo + 1 ≤ t ∧ t < hi
    · rw [if_pos z, if_pos (by omega)]
    · rw [if_neg z, if_neg (by omega)]
def fi_U (x : Int32) (l : Nat) : Int32 := (x.toUInt32 >>> ((nI (7 * l)).toUInt32 &&& Int32.toUInt32 31)).toInt32
def fi_Z (x : Int32) (l : Nat) : Int32 := if l < 5 then fi_U x l else 0
theorem fi_g (x : Int32) : ∃ g : Nat, 1 ≤ g ∧ g ≤ 5 ∧ (∀ l, 1 ≤ l → l < g → ¬ fi_U x l = 0) ∧ (g < 5 → fi_U x g = 0) := by
  by_cases h1 : fi_U x 1 = 0
  · exact ⟨1, by omega, by omega, fun l a b => by omega, fun _ => h1⟩
  · by_cases h2 : fi_U x 2 = 0
    · exact ⟨2, by omega, by omega, fun l a b => by have : l = 1 := by omega
                                                    subst this; exact h1, fun _ => h2⟩
    · by_cases h3 : fi_U x 3 = 0
      · exact ⟨3, by omega, by omega, fun l a b => by
          have : l = 1 ∨ l = 2 := by omega
          rcases this with rfl | rfl
          · exact h1
          · exact h2, fun _ => h3⟩
      · by_cases h4 : fi_U x 4 = 0
        · exact ⟨4, by omega, by omega, fun l a b => by
            have : l = 1 ∨ l = 2 ∨ l = 3 := by omega
            rcases this with rfl | rfl | rfl
            · exact h1
            · exact h2
            · exact h3, fun _ => h4⟩
        · exact ⟨5, by omega, by omega, fun l a b => by
            have : l = 1 ∨ l = 2 ∨ l = 3 ∨ l = 4 := by omega
            rcases this with rfl | rfl | rfl | rfl
            · exact h1
            · exact h2
            · exact h3
            · exact h4, fun z => by omega⟩
theorem fi_Zs (x : Int32) {l : Nat} (hl : l < 5) : ((fi_Z x l).toUInt32 >>> ((7 : Int32).toUInt32 &&& Int32.toUInt32 31)).toInt32 = fi_Z x (l + 1) := by
  unfold fi_Z
  rw [if_pos hl]
  unfold fi_U
  by_cases z : l + 1 < 5
  · rw [if_pos z]
    exact (fb_ushrushr (m := 7 * l) (n := 7) (by omega) x)
  · rw [if_neg z]
    exact fb_ushr35 (m := 7 * l) (n := 7) (by omega) (by omega) (by omega) x
def fi_ok (a : Nat) (fl x : Int32) : Prop := a = 4 ∨ (a < 4 ∧ (((fl &&& 16) = 0 ∧ (x >>> (nI (8 * a) &&& 31)) = 0) ∨ (¬ (fl &&& 16) = 0 ∧ ((x >>> (nI (8 * a - 1) &&& 31)) = 0 ∨ (x >>> (nI (8 * a - 1) &&& 31)) = -1))))
section
variable {xic xoc xfc xhf xil xll xol xea xwr xcu xfo xsp xpo xbl xli xvu yic ysz yfd yls ymd ysa ytk ydp yps ybi ysp yus ynx yra yrd : Int32} {iK iA iB xM xO xS FK FA FB FM inp lst out vs xR xL yO yN yS yT : Nat → Int32}
variable {N fd ll i sp p b lim us dp base S : Nat} {w : Bool}
theorem rx_kw {post : SX → Prop} {v : Nat} {x : Int32} (hv : v < 8) (H : post (xic, xoc, nI N, xhf, nI fd, nI ll, xol, xea, fw_w w, nI i, xfo, nI sp, nI p, nI b, nI lim, nI (us + 1), iK, iA, iB, xM, xO, xS, FK, FA, FB, FM, inp, lst, out, upd vs v x, xR, xL)) : wpX_keepWritten post (xic, xoc, nI N, xhf, nI fd, nI ll, xol, xea, fw_w w, nI i, xfo, nI sp, nI p, nI b, nI lim, nI us, iK, iA, iB, xM, xO, xS, FK, FA, FB, FM, inp, lst, out, vs, xR, xL) x (nI v) := by
  have cv : (nI v).toNatClampNeg = v := nI_clamp (by omega)
  exact nm_r (nI_1 us) ⟨vp_in_nI hv (by omega), nm_r (by rw [cv]) H⟩
theorem ri_e {a : Nat} (h1 : 1 ≤ a) (h4 : a < 4) (x : Int32) : ((x <<< ((32 - (8 * nI a)) &&& 31)) >>> ((32 - (8 * nI a)) &&& 31)) = x ↔ (x >>> (nI (8 * a - 1) &&& 31)) = 0 ∨ (x >>> (nI (8 * a - 1) &&& 31)) = -1 := by
  have e : (32 : Int32) - (8 * nI a) = nI (32 - 8 * a) := by
    rw [show (8 : Int32) * nI a = nI (8 * a) from pk_mul 8 a]
    exact pk_sub (a := 32) (by omega)
  rw [e]
  exact fb_ext x (by omega)
theorem rx_fit1 {post : Int32 → Prop} {a : Nat} {fl x : Int32} (h1 : 1 ≤ a) (h : fi_ok a fl x) (H : post 1) : wpX_fitsInBytes post (xic, xoc, nI N, xhf, nI fd, nI ll, xol, xea, fw_w w, nI i, xfo, nI sp, nI p, nI b, nI lim, nI us, iK, iA, iB, xM, xO, xS, FK, FA, FB, FM, inp, lst, out, vs, xR, xL) x (nI a) fl := by
  have e8 : (8 : Int32) * nI a = nI (8 * a) := pk_mul 8 a
  rcases h with h | ⟨h4, h⟩
  · subst h
    exact br_f (by decide) H
  · refine br_t (nI_lt (b := 4) h4 (by decide)) ?_
    rcases h with ⟨z, h⟩ | ⟨z, h⟩
    · refine br_t z (br_t ?_ H)
      rw [e8]
      exact (fb_fit x (by omega)).mpr h
    · refine br_f z ?_
      exact nm_e (br_t ((ri_e h1 h4 x).mpr h) H)
theorem rx_fit0 {post : Int32 → Prop} {a : Nat} {fl x : Int32} (h1 : 1 ≤ a) (h4 : a ≤ 4) (h : ¬ fi_ok a fl x) (H : post 0) : wpX_fitsInBytes post (xic, xoc, nI N, xhf, nI fd, nI ll, xol, xea, fw_w w, nI i, xfo, nI sp, nI p, nI b, nI lim, nI us, iK, iA, iB, xM, xO, xS, FK, FA, FB, FM, inp, lst, out, vs, xR, xL) x (nI a) fl := by
  have e8 : (8 : Int32) * nI a = nI (8 * a) := pk_mul 8 a
  have h4' : a < 4 := by
    rcases Nat.lt_or_ge a 4 with z | z
    · exact z
    · exact absurd (Or.inl (by omega)) h
  refine br_t (nI_lt (b := 4) h4' (by decide)) ?_
  by_cases z : (fl &&& 16) = 0
  · refine br_t z (br_f ?_ H)
    rw [e8]
    intro y
    exact h (Or.inr ⟨h4', Or.inl ⟨z, (fb_fit x (by omega)).mp y⟩⟩)
  · refine br_f z ?_
    exact nm_e (br_f (fun y => h (Or.inr ⟨h4', Or.inr ⟨z, (ri_e h1 h4' x).mp y⟩⟩)) H)
theorem ry_fit1 {post : Int32 → SY → Prop} {a v : Nat} {x : Int32} (hi : i < 40) (h1 : 1 ≤ a) (h : fi_ok a (FB i) x) (H : wY_give_120 post (nI 0) (nI i) (nI v) x (nI a) yic (nI N) (nI fd) (nI ll) ymd ysa ytk (nI dp) (nI p) (nI b) (nI sp) (nI us) ynx yra (fw_r w) iK iA iB FK FA FB inp lst out vs yO yN yS yT) : wY_give_46 post (nI 0) (nI i) (nI v) x (nI a) (8 * nI a) yic (nI N) (nI fd) (nI ll) ymd ysa ytk (nI dp) (nI p) (nI b) (nI sp) (nI us) ynx yra (fw_r w) iK iA iB FK FA FB inp lst out vs yO yN yS yT := by
  have ci : (nI i).toNatClampNeg = i := nI_clamp (by omega)
  have vi : vp_in (nI i) 40 := vp_in_nI hi (by omega)
  have e8 : (8 : Int32) * nI a = nI (8 * a) := pk_mul 8 a
  refine br_t (by decide) ⟨vi, ?_⟩
  rw [ci, e8]
  rcases h with h | ⟨h4, h⟩
  · subst h
    by_cases z : (FB i &&& 16) = 0
    · exact br_t z (br_f (by decide) (br_t (by decide) H))
    · exact br_f z (br_f (by decide) (br_t (by decide) H))
  · have n32 : ¬ nI (8 * a) = (32 : Int32) := fun z => by
      have := (nI_eq (a := 8 * a) (b := 32) (by omega) (by omega)).mp z
      omega
    have em : nI (8 * a) - 1 = nI (8 * a - 1) := pk_sub (b := 1) (by omega)
    rcases h with ⟨z, h⟩ | ⟨z, h⟩
    · exact br_t z (br_f (by decide) (br_f n32 (br_t rfl (br_t h H))))
    · refine br_f z (br_f (by decide) (br_f n32 (br_f (by decide) ?_)))
      rw [em]
      by_cases y : (x >>> (nI (8 * a - 1) &&& 31)) = 0
      · exact br_t y H
      · exact br_f y (br_t (h.resolve_left y) H)
theorem ry_fit0 {post : Int32 → SY → Prop} {a v : Nat} {x : Int32} (hi : i < 40) (h1 : 1 ≤ a) (h4 : a ≤ 4) (h : ¬ fi_ok a (FB i) x) (H : post 4 (yic, nI N, nI fd, nI ll, ymd, ysa, ytk, nI dp, nI p, nI b, nI sp, nI us, ynx, yra, fw_r w, iK, iA, iB, FK, FA, FB, inp, lst, out, vs, yO, yN, yS, yT)) : wY_give_46 post (nI 0) (nI i) (nI v) x (nI a) (8 * nI a) yic (nI N) (nI fd) (nI ll) ymd ysa ytk (nI dp) (nI p) (nI b) (nI sp) (nI us) ynx yra (fw_r w) iK iA iB FK FA FB inp lst out vs yO yN yS yT := by
  have ci : (nI i).toNatClampNeg = i := nI_clamp (by omega)
  have vi : vp_in (nI i) 40 := vp_in_nI hi (by omega)
  have e8 : (8 : Int32) * nI a = nI (8 * a) := pk_mul 8 a
  have h4' : a < 4 := by
    rcases Nat.lt_or_ge a 4 with z | z
    · exact z
    · exact absurd (Or.inl (by omega)) h
  have n32 : ¬ nI (8 * a) = (32 : Int32) := fun z => by
    have := (nI_eq (a := 8 * a) (b := 32) (by omega) (by omega)).mp z
    omega
  have em : nI (8 * a) - 1 = nI (8 * a - 1) := pk_sub (b := 1) (by omega)
  refine br_t (by decide) ⟨vi, ?_⟩
  rw [ci, e8]
  by_cases z : (FB i &&& 16) = 0
  · exact br_t z (br_f (by decide) (br_f n32 (br_t rfl (br_f (fun y => h (Or.inr ⟨h4', Or.inl ⟨z, y⟩⟩)) (br_t rfl H)))))
  · refine br_f z (br_f (by decide) (br_f n32 (br_f (by decide) ?_)))
    rw [em]
    exact br_f (fun y => h (Or.inr ⟨h4', Or.inr ⟨z, Or.inl y⟩⟩)) (br_f (fun y => h (Or.inr ⟨h4', Or.inr ⟨z, Or.inr y⟩⟩)) (br_t rfl H))
/-- the groups counted -/
theorem ry_144 {post : Int32 → SY → Prop} {x1 x2 x3 x5 x : Int32} {g : Nat} (h5 : g ≤ 5) (hlt : ∀ l, 1 ≤ l → l < g → ¬ fi_U x l = 0) (hg : g < 5 → fi_U x g = 0) (H : (x1 = 0 → wY_give_188 post x1 x2 x3 x x5 (nI g) x5 yic (nI N) (nI fd) (nI ll) ymd ysa ytk (nI dp) (nI p) (nI b) (nI sp) (nI us) ynx yra (fw_r w) iK iA iB FK FA FB inp lst out vs yO yN yS yT) ∧ (¬ x1 = 0 → ((x1 = 1 → wY_give_188 post x1 x2 x3 x x5 (nI g) (nI g) yic (nI N) (nI fd) (nI ll) ymd ysa ytk (nI dp) (nI p) (nI b) (nI sp) (nI us) ynx yra (fw_r w) iK iA iB FK FA FB inp lst out vs yO yN yS yT) ∧ (¬ x1 = 1 → wpY_wanted (fun r_14 => wY_give_188 post x1 x2 x3 x x5 (nI g) r_14 yic (nI N) (nI fd) (nI ll) ymd ysa ytk (nI dp) (nI p) (nI b) (nI sp) (nI us) ynx yra (fw_r w) iK iA iB FK FA FB inp lst out vs yO yN yS yT) (yic, nI N, nI fd, nI ll, ymd, ysa, ytk, nI dp, nI p, nI b, nI sp, nI us, ynx, yra, fw_r w, iK, iA, iB, FK, FA, FB, inp, lst, out, vs, yO, yN, yS, yT) x5)))) : ∀ d l : Nat, 1 ≤ l → l + d = g → wY_give_144 post x1 x2 x3 x x5 yic (nI N) (nI fd) (nI ll) ymd ysa ytk (nI dp) (nI p) (nI b) (nI sp) (nI us) ynx yra (fw_r w) iK iA iB FK FA FB inp lst out vs yO yN yS yT (d + 1) (nI l) (fi_Z x l) := by
  intro d
  induction d with
  | zero =>
    intro l h1 hl
    have e : l = g := by omega
    rw [e]
    refine br_t ?_ H
    unfold fi_Z
    by_cases z : g < 5
    · rw [if_pos z]; exact hg z
    · rw [if_neg z]
  | succ d ih =>
    intro l h1 hl
    have n0 : ¬ fi_Z x l = 0 := by
      unfold fi_Z
      rw [if_pos (by omega)]
      exact hlt l h1 (by omega)
    exact br_f n0 (nm_r (nI_1 l) (nm_r (fi_Zs x (by omega)) (ih (l + 1) (by omega) (by omega))))
theorem ry_120 {post : Int32 → SY → Prop} {x1 x2 x3 x5 x : Int32} {g : Nat} (h1 : 1 ≤ g) (h5 : g ≤ 5) (hlt : ∀ l, 1 ≤ l → l < g → ¬ fi_U x l = 0) (hg : g < 5 → fi_U x g = 0) (H : (x1 = 0 → wY_give_188 post x1 x2 x3 x x5 (nI g) x5 yic (nI N) (nI fd) (nI ll) ymd ysa ytk (nI dp) (nI p) (nI b) (nI sp) (nI us) ynx yra (fw_r w) iK iA iB FK FA FB inp lst out vs yO yN yS yT) ∧ (¬ x1 = 0 → ((x1 = 1 → wY_give_188 post x1 x2 x3 x x5 (nI g) (nI g) yic (nI N) (nI fd) (nI ll) ymd ysa ytk (nI dp) (nI p) (nI b) (nI sp) (nI us) ynx yra (fw_r w) iK iA iB FK FA FB inp lst out vs yO yN yS yT) ∧ (¬ x1 = 1 → wpY_wanted (fun r_14 => wY_give_188 post x1 x2 x3 x x5 (nI g) r_14 yic (nI N) (nI fd) (nI ll) ymd ysa ytk (nI dp) (nI p) (nI b) (nI sp) (nI us) ynx yra (fw_r w) iK iA iB FK FA FB inp lst out vs yO yN yS yT) (yic, nI N, nI fd, nI ll, ymd, ysa, ytk, nI dp, nI p, nI b, nI sp, nI us, ynx, yra, fw_r w, iK, iA, iB, FK, FA, FB, inp, lst, out, vs, yO, yN, yS, yT) x5)))) : wY_give_120 post x1 x2 x3 x x5 yic (nI N) (nI fd) (nI ll) ymd ysa ytk (nI dp) (nI p) (nI b) (nI sp) (nI us) ynx yra (fw_r w) iK iA iB FK FA FB inp lst out vs yO yN yS yT :=
  br_f (by decide) (nm_e ⟨g - 1 + 1, ry_144 h5 hlt hg H (g - 1) 1 (by omega) (by omega)⟩)
/-- INT: the bytes -/
theorem rw_X {post : Int32 → SX → Prop} {a : Nat} {fl x : Int32} {B out0 : Nat → Int32} (h1 : 1 ≤ a) (h4 : a ≤ 4) (hpa : p + a ≤ 64) (hB0 : (fl &&& 8) = 0 → ∀ j, j < a → B (p + (a - 1 - j)) = (x >>> (nI (8 * j) &&& 31)) &&& 255) (hB1 : ¬ (fl &&& 8) = 0 → ∀ j, j < a → B (p + j) = (x >>> (nI (8 * j) &&& 31)) &&& 255) (H : wpX_keepWritten (fun u => match u with | (xic, xoc, xfc, xhf, xil, xll, xol, xea, xwr, xcu, xfo, xsp, xpo, xbl, xli, xvu, iK, iA, iB, xM, xO, xS, FK, FA, FB, FM, inp, lst, out, vs, xR, xL) => post 0 (xic, xoc, xfc, xhf, xil, xll, xol, xea, xwr, xcu, xfo, xsp, xpo, xbl, xli, xvu, iK, iA, iB, xM, xO, xS, FK, FA, FB, FM, inp, lst, out, vs, xR, xL)) (xic, xoc, nI N, xhf, nI fd, nI ll, xol, xea, fw_w w, nI i, xfo, nI sp, nI (p + a), nI b, nI lim, nI us, iK, iA, iB, xM, xO, xS, FK, FA, FB, FM, inp, lst, fo B out0 p (p + a), vs, xR, xL) x (fl &&& 7)) : ∀ (d j : Nat) (out : Nat → Int32), j + d = a → ((fl &&& 8) = 0 → out = fo B out0 (p + (a - j)) (p + a)) → (¬ (fl &&& 8) = 0 → out = fo B out0 p (p + j)) → wX_writeInt_40 post (nI a) fl x xic xoc (nI N) xhf (nI fd) (nI ll) xol xea (fw_w w) (nI i) xfo (nI sp) (nI p) (nI b) (nI lim) (nI us) (d + 1) (nI j) iK iA iB xM xO xS FK FA FB FM inp lst out vs xR xL := by
  intro d
  induction d with
  | zero =>
    intro j out hj g0 g1
    have e : j = a := by omega
    have eo : out = fo B out0 p (p + a) := by
      by_cases z : (fl &&& 8) = 0
      · rw [g0 z, show p + (a - j) = p by omega]
      · rw [g1 z, e]
    rw [eo]
    exact br_t (nI_le (by omega) (by omega)) (nm_r (nI_add p a) H)
  | succ d ih =>
    intro j out hj g0 g1
    have e8 : (8 : Int32) * nI j = nI (8 * j) := pk_mul 8 j
    refine br_f (nI_ge (by omega) (by omega)) ?_
    by_cases z : (fl &&& 8) = 0
    · have e0 : (nI a - 1) - nI j = nI (a - 1 - j) := by
        have : nI a - 1 = nI (a - 1) := pk_sub (b := 1) (by omega)
        rw [this, pk_sub (by omega)]
      have e1 : nI p + ((nI a - 1) - nI j) = nI (p + (a - 1 - j)) := by rw [e0, nI_add]
      have v1 : vp_in (nI p + ((nI a - 1) - nI j)) 64 := by rw [e1]; exact vp_in_nI (by omega) (by omega)
      have c1 : (nI p + ((nI a - 1) - nI j)).toNatClampNeg = p + (a - 1 - j) := by rw [e1]; exact nI_clamp (by omega)
      refine br_t z ⟨v1, nm_r (e' := fo B out0 (p + (a - (j + 1))) (p + a)) ?_ (nm_r (nI_1 j) (ih (j + 1) _ (by omega) (fun _ => rfl) (fun y => absurd z y)))⟩
      rw [c1, e8, ← fb_byte x (by omega), ← hB0 z j (by omega), g0 z, show p + (a - j) = p + (a - 1 - j) + 1 by omega, fo_p _ _ (by omega), show p + (a - (j + 1)) = p + (a - 1 - j) by omega]
    · have e1 : nI p + nI j = nI (p + j) := nI_add p j
      have v1 : vp_in (nI p + nI j) 64 := by rw [e1]; exact vp_in_nI (by omega) (by omega)
      have c1 : (nI p + nI j).toNatClampNeg = p + j := by rw [e1]; exact nI_clamp (by omega)
      refine br_f z ⟨v1, nm_r (e' := fo B out0 p (p + (j + 1))) ?_ (nm_r (nI_1 j) (ih (j + 1) _ (by omega) (fun y => absurd y z) (fun _ => rfl)))⟩
      rw [c1, e8, ← fb_byte x (by omega), ← hB1 z j (by omega), g1 z, fo_s _ _ (by omega), Nat.add_assoc]
theorem rw_Y {post : Int32 → SY → Prop} {a : Nat} {x x10 : Int32} {B out0 : Nat → Int32} (h1 : 1 ≤ a) (h4 : a ≤ 4) (hpa : p + a ≤ 64) (hB0 : x10 = 0 → ∀ j, j < a → B (p + j) = (x >>> (nI (8 * (a - 1 - j)) &&& 31)) &&& 255) (hB1 : ¬ x10 = 0 → ∀ j, j < a → B (p + j) = (x >>> (nI (8 * j) &&& 31)) &&& 255) (H : post 0 (yic, nI N, nI fd, nI ll, ymd, ysa, ytk, nI dp, nI (p + a), nI b, nI sp, nI us, ynx, yra, fw_r w, iK, iA, iB, FK, FA, FB, inp, lst, fo B out0 p (p + a), vs, yO, yN, yS, yT)) : ∀ (d j : Nat), j + d = a → wY_give_240 post x (nI a) x10 yic (nI N) (nI fd) (nI ll) ymd ysa ytk (nI dp) (nI b) (nI sp) (nI us) ynx yra (fw_r w) (d + 1) (nI j) (nI (p + j)) iK iA iB FK FA FB inp lst (fo B out0 p (p + j)) vs yO yN yS yT := by
  intro d
  induction d with
  | zero =>
    intro j hj
    have e : j = a := by omega
    rw [e]
    exact br_t (nI_le (by omega) (by omega)) H
  | succ d ih =>
    intro j hj
    have v1 : vp_in (nI (p + j)) 64 := vp_in_nI (by omega) (by omega)
    have c1 : (nI (p + j)).toNatClampNeg = p + j := nI_clamp (by omega)
    refine br_f (nI_ge (by omega) (by omega)) (nm_r (nI_1 (p + j)) ?_)
    by_cases z : x10 = 0
    · have e0 : (8 : Int32) * ((nI a - 1) - nI j) = nI (8 * (a - 1 - j)) := by
        have : nI a - 1 = nI (a - 1) := pk_sub (b := 1) (by omega)
        rw [this, pk_sub (by omega)]
        exact pk_mul 8 _
      refine br_t z ⟨v1, nm_r (e' := fo B out0 p (p + (j + 1))) ?_ (nm_r (nI_1 j) (ih (j + 1) (by omega)))⟩
      rw [c1, e0, ← hB0 z j (by omega), fo_s _ _ (by omega), Nat.add_assoc]
    · have e0 : (8 : Int32) * nI j = nI (8 * j) := pk_mul 8 j
      refine br_f z ⟨v1, nm_r (e' := fo B out0 p (p + (j + 1))) ?_ (nm_r (nI_1 j) (ih (j + 1) (by omega)))⟩
      rw [c1, e0, ← hB1 z j (by omega), fo_s _ _ (by omega), Nat.add_assoc]
theorem rf_0w (E : fr_E FK xR xL yO yN N fd lim S i dp w) (hp : p ≤ lim) (hb : b ≤ 7) (hbp : 0 < b → 0 < p) (hus : us ≤ ll) (hll : ll ≤ 40) {a : Nat} (h1 : 1 ≤ a) (h4 : a ≤ 4) (ha : FA i = nI a) (hw : w = true) (hu : us < ll) : (∃ (r q : Int32), r ≠ 0 ∧ (w = true → q = nI p) ∧ (∀ post : Int32 → SX → Prop, post r (xic, xoc, nI N, xhf, nI fd, nI ll, xol, xea, fw_w w, nI i, xfo, nI sp, nI p, nI b, nI lim, nI us, iK, iA, iB, xM, xO, xS, FK, FA, FB, FM, inp, lst, out, vs, xR, xL) → wpX_doItem post (xic, xoc, nI N, xhf, nI fd, nI ll, xol, xea, fw_w w, nI i, xfo, nI sp, nI p, nI b, nI lim, nI us, iK, iA, iB, xM, xO, xS, FK, FA, FB, FM, inp, lst, out, vs, xR, xL) (nI 0) (FA i) (FB i)) ∧ (∀ post : Int32 → SY → Prop, post r (yic, nI N, nI fd, nI ll, ymd, ysa, ytk, nI dp, q, nI b, nI sp, nI us, ynx, yra, fw_r w, iK, iA, iB, FK, FA, FB, inp, lst, out, vs, yO, yN, yS, yT) → wY_item_113 post (nI i) (nI 0) yic (nI N) (nI fd) (nI ll) ymd ysa ytk (nI dp) (nI p) (nI b) (nI sp) (nI us) ynx yra (fw_r w) iK iA iB FK FA FB inp lst out vs yO yN yS yT)) ∨ (∃ (p' b' us' ll' : Nat) (lst' out' vs' : Nat → Int32), p' ≤ lim ∧ b' ≤ 7 ∧ (0 < b' → 0 < p') ∧ us' ≤ ll' ∧ ll' ≤ 40 ∧ (∀ post : Int32 → SX → Prop, post 0 (xic, xoc, nI N, xhf, nI fd, nI ll', xol, xea, fw_w w, nI i, xfo, nI sp, nI p', nI b', nI lim, nI us', iK, iA, iB, xM, xO, xS, FK, FA, FB, FM, inp, lst', out', vs', xR, xL) → wpX_doItem post (xic, xoc, nI N, xhf, nI fd, nI ll, xol, xea, fw_w w, nI i, xfo, nI sp, nI p, nI b, nI lim, nI us, iK, iA, iB, xM, xO, xS, FK, FA, FB, FM, inp, lst, out, vs, xR, xL) (nI 0) (FA i) (FB i)) ∧ (∀ post : Int32 → SY → Prop, post 0 (yic, nI N, nI fd, nI ll', ymd, ysa, ytk, nI dp, nI p', nI b', nI sp, nI us', ynx, yra, fw_r w, iK, iA, iB, FK, FA, FB, inp, lst', out', vs', yO, yN, yS, yT) → wY_item_113 post (nI i) (nI 0) yic (nI N) (nI fd) (nI ll) ymd ysa ytk (nI dp) (nI p) (nI b) (nI sp) (nI us) ynx yra (fw_r w) iK iA iB FK FA FB inp lst out vs yO yN yS yT)) := by
  obtain ⟨hi, hlim, ci, vi⟩ := rE_i E
  obtain ⟨v, hv, ev, vv, cv⟩ := rE_v (FB i)
  have ev' : FB (nI i).toNatClampNeg &&& 7 = nI v := by rw [ci]; exact ev
  have eb : FB (nI i).toNatClampNeg = FB i := by rw [ci]
  have ea : FA (nI i).toNatClampNeg = nI a := by rw [ci]; exact ha
  have esub : nI lim - nI p = nI (lim - p) := pk_sub hp
  have vu : vp_in (nI us) 40 := vp_in_nI (by omega) (by omega)
  have eu : lst (nI us).toNatClampNeg = lst us := by rw [nI_clamp (by omega)]
  have nu : ¬ nI us = nI ll := fun z => by
    have := (nI_eq (by omega) (by omega)).mp z
    omega
  subst hw
  have HXin : ∀ post : Int32 → SX → Prop, wpX_fitsInBytes (fun r_3 => (r_3 = 0 → post 4 (xic, xoc, nI N, xhf, nI fd, nI ll, xol, xea, fw_w true, nI i, xfo, nI sp, nI p, nI b, nI lim, nI us, iK, iA, iB, xM, xO, xS, FK, FA, FB, FM, inp, lst, out, vs, xR, xL)) ∧ (¬ r_3 = 0 → ((nI a ≤ (nI lim - nI p) → ∃ n40 : Nat, wX_writeInt_40 (fun r u => match u with | (xic, xoc, xfc, xhf, xil, xll, xol, xea, xwr, xcu, xfo, xsp, xpo, xbl, xli, xvu, iK, iA, iB, xM, xO, xS, FK, FA, FB, FM, inp, lst, out, vs, xR, xL) => post r (xic, xoc, xfc, xhf, xil, xll, xol, xea, xwr, xcu, xfo, xsp, xpo, xbl, xli, xvu, iK, iA, iB, xM, xO, xS, FK, FA, FB, FM, inp, lst, out, vs, xR, xL)) (nI a) (FB i) (lst us) xic xoc (nI N) xhf (nI fd) (nI ll) xol xea (fw_w true) (nI i) xfo (nI sp) (nI p) (nI b) (nI lim) (nI us) n40 0 iK iA iB xM xO xS FK FA FB FM inp lst out vs xR xL) ∧ (¬ nI a ≤ (nI lim - nI p) → post 3 (xic, xoc, nI N, xhf, nI fd, nI ll, xol, xea, fw_w true, nI i, xfo, nI sp, nI p, nI b, nI lim, nI us, iK, iA, iB, xM, xO, xS, FK, FA, FB, FM, inp, lst, out, vs, xR, xL))))) (xic, xoc, nI N, xhf, nI fd, nI ll, xol, xea, fw_w true, nI i, xfo, nI sp, nI p, nI b, nI lim, nI us, iK, iA, iB, xM, xO, xS, FK, FA, FB, FM, inp, lst, out, vs, xR, xL) (lst us) (nI a) (FB i) → wpX_doItem post (xic, xoc, nI N, xhf, nI fd, nI ll, xol, xea, fw_w true, nI i, xfo, nI sp, nI p, nI b, nI lim, nI us, iK, iA, iB, xM, xO, xS, FK, FA, FB, FM, inp, lst, out, vs, xR, xL) (nI 0) (FA i) (FB i) := by
    intro post H
    rw [ha]
    exact nm_r ev (br_f (by decide) (br_f (by decide) (br_t (by decide) (br_f (by decide) ⟨vu, nm_r eu H⟩))))
  have HYin : ∀ post : Int32 → SY → Prop, wY_give_46 (fun r u => match u with | (yic, ysz, yfd, yls, ymd, ysa, ytk, ydp, yps, ybi, ysp, yus, ynx, yra, yrd, yK, yA, yB, zK, zA, zB, yin, ylst, yout, yvs, yO, yN, yS, yT) => post r (yic, ysz, yfd, yls, ymd, ysa, ytk, ydp, yps, ybi, ysp, yus, ynx, yra, yrd, yK, yA, yB, zK, zA, zB, yin, ylst, yout, yvs, yO, yN, yS, yT)) (nI 0) (nI i) (nI v) (lst us) (nI a) (8 * nI a) yic (nI N) (nI fd) (nI ll) ymd ysa ytk (nI dp) (nI p) (nI b) (nI sp) (nI us) ynx yra (fw_r true) iK iA iB FK FA FB inp lst out vs yO yN yS yT → wY_item_113 post (nI i) (nI 0) yic (nI N) (nI fd) (nI ll) ymd ysa ytk (nI dp) (nI p) (nI b) (nI sp) (nI us) ynx yra (fw_r true) iK iA iB FK FA FB inp lst out vs yO yN yS yT := by
    intro post H
    exact ⟨vi, nm_r ev' (br_f (by decide) (br_t (by decide) (br_f nu ⟨vu, nm_r eu ⟨vi, nm_r ea (br_t (by decide) H)⟩⟩)))⟩
  obtain ⟨g, g1, g5, glt, gg⟩ := fi_g (lst us)
  by_cases hf : fi_ok a (FB i) (lst us)
  · by_cases h : p + a ≤ lim
    · have cX : nI a ≤ nI lim - nI p := by rw [esub]; exact nI_le (by omega) (by omega)
      obtain ⟨B, b0, b1, b2, b3⟩ : ∃ B : Nat → Int32, ((FB i &&& 8) = 0 → ∀ j, j < a → B (p + (a - 1 - j)) = ((lst us) >>> (nI (8 * j) &&& 31)) &&& 255) ∧ (¬ (FB i &&& 8) = 0 → ∀ j, j < a → B (p + j) = ((lst us) >>> (nI (8 * j) &&& 31)) &&& 255) ∧ ((FB i &&& 8) = 0 → ∀ j, j < a → B (p + j) = ((lst us) >>> (nI (8 * (a - 1 - j)) &&& 31)) &&& 255) ∧ (¬ (FB i &&& 8) = 0 → ∀ j, j < a → B (p + j) = ((lst us) >>> (nI (8 * j) &&& 31)) &&& 255) := by
        by_cases z : (FB i &&& 8) = 0
        · refine ⟨fun t => ((lst us) >>> (nI (8 * (a - 1 - (t - p))) &&& 31)) &&& 255, fun _ j hj => ?_, fun y => absurd z y, fun _ j hj => ?_, fun y => absurd z y⟩
          · show ((lst us) >>> (nI (8 * (a - 1 - (p + (a - 1 - j) - p))) &&& 31)) &&& 255 = _
            rw [show a - 1 - (p + (a - 1 - j) - p) = j by omega]
          · show ((lst us) >>> (nI (8 * (a - 1 - (p + j - p))) &&& 31)) &&& 255 = _
            rw [show p + j - p = j by omega]
        · have q : ∀ j, j < a → (fun t => ((lst us) >>> (nI (8 * (t - p)) &&& 31)) &&& 255) (p + j) = ((lst us) >>> (nI (8 * j) &&& 31)) &&& 255 := by
            intro j hj
            show ((lst us) >>> (nI (8 * (p + j - p)) &&& 31)) &&& 255 = _
            rw [show p + j - p = j by omega]
          exact ⟨fun t => ((lst us) >>> (nI (8 * (t - p)) &&& 31)) &&& 255, fun y => absurd y z, fun _ => q, fun y => absurd y z, fun _ => q⟩
      refine Or.inr ⟨p + a, b, us + 1, ll, lst, fo B out p (p + a), upd vs v (lst us), h, hb, fun _ => by omega, hu, hll, fun post H => HXin _ (rx_fit1 (w := true) h1 hf (br_f (by decide) (br_t cX ⟨a + 1, ?_⟩))), fun post H => HYin _ (ry_fit1 (w := true) hi h1 hf (ry_120 (w := true) g1 g5 glt gg (br_t (by decide) ?_)))⟩
      · refine rw_X (w := true) (B := B) (out0 := out) h1 h4 (by omega) b0 b1 ?_ a 0 out (by omega) (fun _ => ?_) (fun _ => ?_)
        · rw [ev]
          exact rx_kw (w := true) hv H
        · rw [Nat.sub_zero, fo_0]
        · rw [Nat.add_zero, fo_0]
      · refine rE_1 (w := true) E h (br_f (by decide) (nm_r (nI_1 us) ⟨vv, nm_r (by rw [cv]) (br_t (by decide) ⟨vi, ?_⟩)⟩))
        rw [eb]
        by_cases z : (FB i &&& 8) = 0
        · have K := rw_Y (w := true) (B := B) (out0 := out) (x10 := 0) h1 h4 (by omega) (fun _ => b2 z) (fun y => absurd rfl y) H a 0 (by omega)
          rw [Nat.add_zero p, fo_0] at K
          exact br_t z ⟨a + 1, K⟩
        · have K := rw_Y (w := true) (B := B) (out0 := out) (x10 := 1) h1 h4 (by omega) (fun y => absurd y (by decide)) (fun _ => b3 z) H a 0 (by omega)
          rw [Nat.add_zero p, fo_0] at K
          exact br_f z ⟨a + 1, K⟩
    · have cX : ¬ nI a ≤ nI lim - nI p := by rw [esub]; exact nI_ge (by omega) (by omega)
      exact Or.inl ⟨3, nI p, by decide, fun _ => rfl, fun post H => HXin _ (rx_fit1 (w := true) h1 hf (br_f (by decide) (br_f cX H))), fun post H => HYin _ (ry_fit1 (w := true) hi h1 hf (ry_120 (w := true) g1 g5 glt gg (br_t (by decide) (rE_0 (w := true) E hp (by omega) (by omega) (br_t rfl H)))))⟩
  · exact Or.inl ⟨4, nI p, by decide, fun _ => rfl, fun post H => HXin _ (rx_fit0 (w := true) h1 h4 hf (br_t rfl H)), fun post H => HYin _ (ry_fit0 (w := true) hi h1 h4 hf H)⟩
end
