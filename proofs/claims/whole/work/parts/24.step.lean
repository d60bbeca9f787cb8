def nx_W (post : Int32 → SX → Prop) (n : Nat) (t : Int32) (u : SX) : Prop := match u with
  | (a1, a2, a3, a4, a5, a6, a7, a8, a9, a10, a11, a12, a13, a14, a15, a16, a17, a18, a19, a20, a21, a22, a23, a24, a25, a26, a27, a28, a29, a30, a31, a32) => wX_nextComes_17 post n t a1 a2 a3 a4 a5 a6 a7 a8 a9 a10 a11 a12 a13 a14 a15 a16 a17 a18 a19 a20 a21 a22 a23 a24 a25 a26 a27 a28 a29 a30 a31 a32
def ny_W (post : Int32 → SY → Prop) (n : Nat) (x1 x2 x3 : Int32) (u : SY) : Prop := match u with
  | (a1, a2, a3, a4, a5, a6, a7, a8, a9, a10, a11, a12, a13, a14, a15, a16, a17, a18, a19, a20, a21, a22, a23, a24, a25, a26, a27, a28, a29, a30, a31, a32) => wY_pull_11 post n x1 x2 x3 a1 a2 a3 a4 a5 a6 a7 a8 a9 a10 a11 a12 a13 a14 a15 a16 a17 a18 a19 a20 a21 a22 a23 a24 a25 a26 a27 a28 a29 a30 a31 a32
def ny_A (post : Int32 → SY → Prop) (nf s : Nat) (act : Int32) (v : SY) : Prop :=
  (act = 3 ∧ post 3 v) ∨ (act = 2 ∧ ny_W post nf (rn_aI s) 2 1 v) ∨ ((act = 0 ∨ act = 1) ∧ ny_W post nf (nI (s + 1)) act 0 v)
theorem nx_lt {t : Nat} (h : t < 1000000) : ¬ (1000000 : Int32) ≤ nI t := nI_ge (b := 1000000) h (by decide)
section
variable {lm pn wp sr sc se fl sp pt sg el rs sn wy ya vv vt ot ra br : Int32} {en oc : Int64} {it le pe op kd nu co cl ap rd si bg ct ls hd hk hc vl tk cn lf la pc yb yh yk ho vs os : Nat → Int32}
variable {bg' ct' ls' hd' hk' hc' lf' la' pc' yb' yh' yk' ho' : Nat → Int32} {S L m q s sgn k : Nat} {g e r b : Nat → Nat} {x y : Int32}
theorem nx_as {u1 : SX} (hs : s < S) (hS : S ≤ 8) (hX : ∀ post : SX → Prop, post u1 → wpX_stageAsked post (lm, pn, wp, sr, nI S, se, fl, sp, 0, nI s, 0, el, rs, sn, it, le, pe, op, kd, nu, co, cl, ap, rd, si, bg, ct, ls, hd, hk, hc, vl) (nI s)) (post : Int32 → SX → Prop) (nf t : Nat) (ht : t < 1000000) (h : nx_W post nf (nI (t + 1)) u1) : nx_W post (nf + 1) (nI t) (lm, pn, wp, sr, nI S, se, fl, sp, 0, nI s, 0, el, rs, sn, it, le, pe, op, kd, nu, co, cl, ap, rd, si, bg, ct, ls, hd, hk, hc, vl) := by
  obtain ⟨a1, a2, a3, a4, a5, a6, a7, a8, a9, a10, a11, a12, a13, a14, a15, a16, a17, a18, a19, a20, a21, a22, a23, a24, a25, a26, a27, a28, a29, a30, a31, a32⟩ := u1
  exact br_f (nx_lt ht) (br_f (nI_ge hs (by omega)) (br_t rfl (br_t (nI_pos' (by omega)) (br_t rfl (hX _ (nm_r (nI_1 t) h))))))
theorem nx_cm {u1 : SX} (hs : s < S) (hS : S ≤ 8) (hX : ∀ post : SX → Prop, post u1 → wpX_elementCame post (lm, pn, wp, sr, nI S, se, fl, sp, 0, nI s, 1, y, rs, sn, it, le, pe, op, kd, nu, co, cl, ap, rd, si, bg, ct, ls, hd, hk, hc, vl) (nI s) y) (post : Int32 → SX → Prop) (nf t : Nat) (ht : t < 1000000) (h : nx_W post nf (nI (t + 1)) u1) : nx_W post (nf + 1) (nI t) (lm, pn, wp, sr, nI S, se, fl, sp, 0, nI s, 1, y, rs, sn, it, le, pe, op, kd, nu, co, cl, ap, rd, si, bg, ct, ls, hd, hk, hc, vl) := by
  obtain ⟨a1, a2, a3, a4, a5, a6, a7, a8, a9, a10, a11, a12, a13, a14, a15, a16, a17, a18, a19, a20, a21, a22, a23, a24, a25, a26, a27, a28, a29, a30, a31, a32⟩ := u1
  exact br_f (nx_lt ht) (br_f (nI_ge hs (by omega)) (br_t rfl (br_t (nI_pos' (by omega)) (br_f (by decide) (br_t rfl (hX _ (nm_r (nI_1 t) h)))))))
theorem nx_en {u1 : SX} (hs : s < S) (hS : S ≤ 8) (hX : ∀ post : SX → Prop, post u1 → wpX_endCame post (lm, pn, wp, sr, nI S, se, fl, sp, 0, nI s, 2, el, rs, sn, it, le, pe, op, kd, nu, co, cl, ap, rd, si, bg, ct, ls, hd, hk, hc, vl) (nI s)) (post : Int32 → SX → Prop) (nf t : Nat) (ht : t < 1000000) (h : nx_W post nf (nI (t + 1)) u1) : nx_W post (nf + 1) (nI t) (lm, pn, wp, sr, nI S, se, fl, sp, 0, nI s, 2, el, rs, sn, it, le, pe, op, kd, nu, co, cl, ap, rd, si, bg, ct, ls, hd, hk, hc, vl) := by
  obtain ⟨a1, a2, a3, a4, a5, a6, a7, a8, a9, a10, a11, a12, a13, a14, a15, a16, a17, a18, a19, a20, a21, a22, a23, a24, a25, a26, a27, a28, a29, a30, a31, a32⟩ := u1
  exact br_f (nx_lt ht) (br_f (nI_ge hs (by omega)) (br_t rfl (br_t (nI_pos' (by omega)) (br_f (by decide) (br_f (by decide) (hX _ (nm_r (nI_1 t) h)))))))
theorem nx_sr {u1 : SX} (hS : S ≤ 8) (hX : ∀ post : SX → Prop, post u1 → wpX_sourceAsked post (lm, pn, wp, sr, nI S, se, fl, sp, 0, -1, 0, el, rs, sn, it, le, pe, op, kd, nu, co, cl, ap, rd, si, bg, ct, ls, hd, hk, hc, vl)) (post : Int32 → SX → Prop) (nf t : Nat) (ht : t < 1000000) (h : nx_W post nf (nI (t + 1)) u1) : nx_W post (nf + 1) (nI t) (lm, pn, wp, sr, nI S, se, fl, sp, 0, -1, 0, el, rs, sn, it, le, pe, op, kd, nu, co, cl, ap, rd, si, bg, ct, ls, hd, hk, hc, vl) := by
  obtain ⟨a1, a2, a3, a4, a5, a6, a7, a8, a9, a10, a11, a12, a13, a14, a15, a16, a17, a18, a19, a20, a21, a22, a23, a24, a25, a26, a27, a28, a29, a30, a31, a32⟩ := u1
  refine br_f (nx_lt ht) (br_f ?_ (br_t rfl (br_f (by decide) (hX _ (nm_r (nI_1 t) h)))))
  intro z
  exact Int32.lt_irrefl (Int32.lt_of_lt_of_le (Int32.lt_of_le_of_lt z (by decide : (-1 : Int32) < 0)) (nI_pos' (by omega)))
theorem ny_77 {act : Int32} {v1 : SY} (post : Int32 → SY → Prop) (nf : Nat) (h : ny_A post nf s act v1) : (match v1 with | (a1, a2, a3, a4, a5, a6, a7, a8, a9, a10, a11, a12, a13, a14, a15, a16, a17, a18, a19, a20, a21, a22, a23, a24, a25, a26, a27, a28, a29, a30, a31, a32) => wY_pull_77 post (wY_pull_11 post nf) (nI s) act a1 a2 a3 a4 a5 a6 a7 a8 a9 a10 a11 a12 a13 a14 a15 a16 a17 a18 a19 a20 a21 a22 a23 a24 a25 a26 a27 a28 a29 a30 a31 a32) := by
  obtain ⟨a1, a2, a3, a4, a5, a6, a7, a8, a9, a10, a11, a12, a13, a14, a15, a16, a17, a18, a19, a20, a21, a22, a23, a24, a25, a26, a27, a28, a29, a30, a31, a32⟩ := v1
  rcases h with ⟨rfl, h⟩ | ⟨rfl, h⟩ | ⟨ha, h⟩
  · exact br_t rfl h
  · exact br_f (by decide) (br_t rfl (br_f (by decide) (nm_r (rn_m1 s) h)))
  · rcases ha with rfl | rfl
    · exact br_f (by decide) (br_f (by decide) (br_t rfl (nm_r (nI_1 s) h)))
    · exact br_f (by decide) (br_f (by decide) (br_t rfl (nm_r (nI_1 s) h)))
theorem ny_as {act : Int32} {v1 : SY} (hs : s < S) (hS : S ≤ 8) (hY : ∀ post : Int32 → SY → Prop, post act v1 → wpY_asked post (lm, sr, nI S, wy, sp, ya, se, fl, vv, vt, ot, ra, br, oc, it, le, tk, cn, kd, nu, lf, la, pc, yb, yh, yk, ho, ap, rd, si, vs, os) (nI s)) (post : Int32 → SY → Prop) (nf : Nat) (h : ny_A post nf s act v1) : ny_W post (nf + 1) (nI s) 2 1 (lm, sr, nI S, wy, sp, ya, se, fl, vv, vt, ot, ra, br, oc, it, le, tk, cn, kd, nu, lf, la, pc, yb, yh, yk, ho, ap, rd, si, vs, os) := by
  have := ny_77 post nf h
  obtain ⟨a1, a2, a3, a4, a5, a6, a7, a8, a9, a10, a11, a12, a13, a14, a15, a16, a17, a18, a19, a20, a21, a22, a23, a24, a25, a26, a27, a28, a29, a30, a31, a32⟩ := v1
  exact br_f (nI_ge hs (by omega)) (br_t (nI_pos' (by omega)) (br_f (by decide) (hY _ this)))
theorem ny_cm {act : Int32} {v1 : SY} (hs : s < S) (hS : S ≤ 8) (hY : ∀ post : Int32 → SY → Prop, post act v1 → wpY_came post (lm, sr, nI S, wy, sp, ya, se, fl, vv, vt, ot, ra, br, oc, it, le, tk, cn, kd, nu, lf, la, pc, yb, yh, yk, ho, ap, rd, si, vs, os) (nI s)) (post : Int32 → SY → Prop) (nf : Nat) (h : ny_A post nf s act v1) : ny_W post (nf + 1) (nI s) 1 0 (lm, sr, nI S, wy, sp, ya, se, fl, vv, vt, ot, ra, br, oc, it, le, tk, cn, kd, nu, lf, la, pc, yb, yh, yk, ho, ap, rd, si, vs, os) := by
  have := ny_77 post nf h
  obtain ⟨a1, a2, a3, a4, a5, a6, a7, a8, a9, a10, a11, a12, a13, a14, a15, a16, a17, a18, a19, a20, a21, a22, a23, a24, a25, a26, a27, a28, a29, a30, a31, a32⟩ := v1
  exact br_f (nI_ge hs (by omega)) (br_t (nI_pos' (by omega)) (br_t rfl (br_t rfl (hY _ this))))
theorem ny_en {act : Int32} {v1 : SY} (hs : s < S) (hS : S ≤ 8) (hY : ∀ post : Int32 → SY → Prop, post act v1 → wpY_ended post (lm, sr, nI S, wy, sp, ya, se, fl, vv, vt, ot, ra, br, oc, it, le, tk, cn, kd, nu, lf, la, pc, yb, yh, yk, ho, ap, rd, si, vs, os) (nI s)) (post : Int32 → SY → Prop) (nf : Nat) (h : ny_A post nf s act v1) : ny_W post (nf + 1) (nI s) 0 0 (lm, sr, nI S, wy, sp, ya, se, fl, vv, vt, ot, ra, br, oc, it, le, tk, cn, kd, nu, lf, la, pc, yb, yh, yk, ho, ap, rd, si, vs, os) := by
  have := ny_77 post nf h
  obtain ⟨a1, a2, a3, a4, a5, a6, a7, a8, a9, a10, a11, a12, a13, a14, a15, a16, a17, a18, a19, a20, a21, a22, a23, a24, a25, a26, a27, a28, a29, a30, a31, a32⟩ := v1
  exact br_f (nI_ge hs (by omega)) (br_t (nI_pos' (by omega)) (br_t rfl (br_f (by decide) (hY _ this))))
/-- MATCH: the component's two steps, the reference's one -/
theorem cm_11 (hkd : ∀ t, t < S → (kd t).toNatClampNeg ≤ 16) (hS : S ≤ 8) (hL : L ≤ 150) (hs : s < S) (hv : vp_in x 8) (hx : x.toNatClampNeg = s) (h : dd_D S L m le kd nu g e r b 1 (s + 1) q sn ya bg ct ls hd hk hc lf la pc yb yh yk ho) (hk0 : kd s = nI 11) {mm n : Nat} (hmm : mm < 3) (hn : n ≤ 24) (hnu : nu s = nI mm) (hle : le mm = nI n) :
    ∃ (act : Int32) (u1 : SX) (v1 : SY) (P1 : Nat), rn_P S g b 1 (s + 1) < P1 ∧ (∀ post : SX → Prop, post (nI L, pn, wp, nI m, nI S, se, fl, nI q, 0, nI s, 0, y, rs, sn, it, le, pe, op, kd, nu, co, cl, ap, rd, si, upd bg s (vp_nar .boolean 1), upd ct s 0, upd ls s y, hd, hk, hc, vl) → wpX_elementCame post (nI L, pn, wp, nI m, nI S, se, fl, nI q, 0, nI s, 1, y, rs, sn, it, le, pe, op, kd, nu, co, cl, ap, rd, si, bg, ct, ls, hd, hk, hc, vl) x y) ∧
      (∀ post : SX → Prop, post u1 → wpX_stageAsked post (nI L, pn, wp, nI m, nI S, se, fl, nI q, 0, nI s, 0, y, rs, sn, it, le, pe, op, kd, nu, co, cl, ap, rd, si, upd bg s (vp_nar .boolean 1), upd ct s 0, upd ls s y, hd, hk, hc, vl) x) ∧
      (∀ post : Int32 → SY → Prop, post act v1 → wpY_came post (nI L, nI m, nI S, wy, nI q, ya, se, fl, y, vt, ot, ra, br, oc, it, le, tk, cn, kd, nu, lf, la, pc, yb, yh, yk, ho, ap, rd, si, vs, os) x) ∧ rr_N pn wp se wy ra it le pe op kd nu co cl si tk cn L S m P1 (s + 1) act u1 v1 := by
  have hkc : (kd s).toNatClampNeg = 11 := by rw [hk0]; exact nI_clamp (by omega)
  obtain ⟨hP, hD⟩ := md_beg1 (bg' := upd bg s (vp_nar .boolean 1)) (ct' := upd ct s 0) (ls' := upd ls s y) (hc' := hc) (hd' := hd) (hk' := hk) (lf' := lf) (la' := upd la s y) (pc' := upd pc s 0) (yb' := upd yb s (vp_nar .boolean 1)) (yh' := yh) (yk' := yk) (ho' := ho) hkd hS hs h ⟨fun t ht => by simp [pk_un ht], fun i hi => ⟨rfl, rfl⟩, fun i hi => ⟨rfl, rfl⟩⟩ hkc (fun P' hP => by
    refine ⟨by rw [pk_us, pk_us], 0, by omega, pk_us, fun _ => ⟨by rw [pk_us, pk_us], pk_us⟩⟩)
  obtain ⟨act, u1, v1, w1, w2, w3⟩ := mt_in (pn := pn) (wp := wp) (se := se) (fl := fl) (rs := rs) (sn := sn) (it := it) (le := le) (pe := pe) (op := op) (kd := kd) (nu := nu) (co := co) (cl := cl) (ap := ap) (rd := rd) (si := si) (hd := hd) (hk := hk) (hc := hc) (vl := vl) (wy := wy) (ya := ya) (vt := vt) (ot := ot) (ra := ra) (br := br) (oc := oc) (tk := tk) (cn := cn) (lf := lf) (yh := yh) (yk := yk) (ho := ho) (vs := vs) (os := os) (el := y) (vv := y) hkd hS hL hs hv hx hD hk0 (by rw [pk_us, vn_1]; decide) hmm hn hnu hle
  refine ⟨act, u1, v1, _, hP, fun post hp => ?_, w1, fun post hp => ?_, w3⟩
  · subst hx
    exact ⟨hv, nm_r hk0 (br_f (by decide) (br_f (by decide) (br_f (by decide) (br_f (by decide) (br_f (by decide) (br_f (by decide) (br_f (by decide) (br_f (by decide) (br_f (by decide) (br_f (by decide) (br_f (by decide) (br_f (by decide) (br_f (by decide) (br_t rfl (⟨hv, nm_e ⟨hv, nm_e ⟨hv, nm_e hp⟩⟩⟩)))))))))))))))⟩
  · subst hx
    exact ⟨hv, nm_r hk0 (br_f (by decide) (br_f (by decide) (br_f (by decide) (br_f (by decide) (br_f (by decide) (br_f (by decide) (br_f (by decide) (br_f (by decide) (br_f (by decide) (br_f (by decide) (br_f (by decide) (br_f (by decide) (br_f (by decide) (br_t rfl (⟨hv, nm_e ⟨hv, nm_e ⟨hv, nm_e (w2 _ (sy_eta hp))⟩⟩⟩)))))))))))))))⟩
/-- an end comes to a stage that passes it on -/
theorem en_pass (hkd : ∀ t, t < S → (kd t).toNatClampNeg ≤ 16) (hS : S ≤ 8) (hL : L ≤ 150) (hs : s < S) (hv : vp_in x 8) (hx : x.toNatClampNeg = s) (h : dd_D S L m le kd nu g e r b 2 (s + 1) q sn ya bg ct ls hd hk hc lf la pc yb yh yk ho) (hk0 : kd s = nI k) (hk1 : k ≤ 16) (hX : ∀ post : SX → Prop, post (nI L, pn, wp, nI m, nI S, se, fl, nI q, 0, nI (s + 1), 2, el, rs, sn, it, le, pe, op, kd, nu, co, cl, ap, rd, si, bg, ct, ls, hd, hk, hc, vl) → wpX_endCame post (nI L, pn, wp, nI m, nI S, se, fl, nI q, 0, nI s, 2, el, rs, sn, it, le, pe, op, kd, nu, co, cl, ap, rd, si, bg, ct, ls, hd, hk, hc, vl) x) (hY : ∀ post : Int32 → SY → Prop, post 0 (nI L, nI m, nI S, wy, nI q, ya, se, fl, vv, vt, ot, ra, br, oc, it, le, tk, cn, kd, nu, lf, la, pc, yb, yh, yk, ho, ap, rd, si, vs, os) → wpY_ended post (nI L, nI m, nI S, wy, nI q, ya, se, fl, vv, vt, ot, ra, br, oc, it, le, tk, cn, kd, nu, lf, la, pc, yb, yh, yk, ho, ap, rd, si, vs, os) x) :
    ∃ (act : Int32) (u1 : SX) (v1 : SY), (∀ post : SX → Prop, post u1 → wpX_endCame post (nI L, pn, wp, nI m, nI S, se, fl, nI q, 0, nI s, 2, el, rs, sn, it, le, pe, op, kd, nu, co, cl, ap, rd, si, bg, ct, ls, hd, hk, hc, vl) x) ∧ (∀ post : Int32 → SY → Prop, post act v1 → wpY_ended post (nI L, nI m, nI S, wy, nI q, ya, se, fl, vv, vt, ot, ra, br, oc, it, le, tk, cn, kd, nu, lf, la, pc, yb, yh, yk, ho, ap, rd, si, vs, os) x) ∧ rr_N pn wp se wy ra it le pe op kd nu co cl si tk cn L S m (rn_P S g b 2 (s + 1)) (s + 1) act u1 v1 :=
  ⟨0, _, _, hX, hY, md_end hkd hS hs h (k := k) fr_id (Or.inr (Or.inr rfl)) (Nat.le_refl _) h.1 (by rw [hk0]; exact nI_clamp (by omega)) (fun P' hP => dd_mono hk1 (Nat.le_of_lt hP) (dd_get h hs hk0 hk1))⟩
theorem en_9 (hkd : ∀ t, t < S → (kd t).toNatClampNeg ≤ 16) (hS : S ≤ 8) (hL : L ≤ 150) (hs : s < S) (hv : vp_in x 8) (hx : x.toNatClampNeg = s) (h : dd_D S L m le kd nu g e r b 2 (s + 1) q sn ya bg ct ls hd hk hc lf la pc yb yh yk ho) (hk0 : kd s = nI 9) {mm n : Nat} (hmm : mm < 3) (hn : n ≤ 24) (hnu : nu s = nI mm) (hle : le mm = nI n) :
    ∃ (act : Int32) (u1 : SX) (v1 : SY) (P1 : Nat), rn_P S g b 2 (s + 1) < P1 ∧ (∀ post : SX → Prop, post (nI L, pn, wp, nI m, nI S, se, fl, nI q, 0, nI s, 0, el, rs, sn, it, le, pe, op, kd, nu, co, cl, ap, rd, si, upd bg s (vp_nar .boolean 1), upd ct s 0, ls, hd, hk, hc, vl) → wpX_endCame post (nI L, pn, wp, nI m, nI S, se, fl, nI q, 0, nI s, 2, el, rs, sn, it, le, pe, op, kd, nu, co, cl, ap, rd, si, bg, ct, ls, hd, hk, hc, vl) x) ∧
      (∀ post : SX → Prop, post u1 → wpX_stageAsked post (nI L, pn, wp, nI m, nI S, se, fl, nI q, 0, nI s, 0, el, rs, sn, it, le, pe, op, kd, nu, co, cl, ap, rd, si, upd bg s (vp_nar .boolean 1), upd ct s 0, ls, hd, hk, hc, vl) x) ∧
      (∀ post : Int32 → SY → Prop, post act v1 → wpY_ended post (nI L, nI m, nI S, wy, nI q, ya, se, fl, vv, vt, ot, ra, br, oc, it, le, tk, cn, kd, nu, lf, la, pc, yb, yh, yk, ho, ap, rd, si, vs, os) x) ∧ rr_N pn wp se wy ra it le pe op kd nu co cl si tk cn L S m P1 (s + 1) act u1 v1 := by
  have hkc : (kd s).toNatClampNeg = 9 := by rw [hk0]; exact nI_clamp (by omega)
  obtain ⟨hbb, j, hj, hyp, hj0, _⟩ := dd_get h hs hk0 (by omega)
  have hb0 : b s = 0 := h.2.2.2.2.2.2.1 s hs (Or.inr ⟨rfl, by decide⟩) (by rw [hkc]; simp [rn_cl])
  have := hj0 hb0
  subst this
  obtain ⟨hP, hD⟩ := md_beg (bg' := upd bg s (vp_nar .boolean 1)) (ct' := upd ct s 0) (ls' := ls) (hc' := hc) (hd' := hd) (hk' := hk) (lf' := lf) (la' := la) (pc' := pc) (yb' := upd yb s (vp_nar .boolean 1)) (yh' := yh) (yk' := yk) (ho' := ho) hkd hS hs h ⟨fun t ht => by simp [pk_un ht], fun i hi => ⟨rfl, rfl⟩, fun i hi => ⟨rfl, rfl⟩⟩ (by simp [rn_cl]) hkc (fun P' hP => by
    refine ⟨⟨by rw [pk_us, pk_us], Or.inr ⟨rfl, by rw [pk_us, vn_1]⟩⟩, 0, by omega, hyp, fun z => absurd z (by decide), fun _ => by rw [pk_us, Nat.zero_min]; rfl⟩)
  obtain ⟨act, u1, v1, w1, w2, w3⟩ := th_in (pn := pn) (wp := wp) (se := se) (fl := fl) (el := el) (rs := rs) (sn := sn) (it := it) (le := le) (pe := pe) (op := op) (kd := kd) (nu := nu) (co := co) (cl := cl) (ap := ap) (rd := rd) (si := si) (ls := ls) (hd := hd) (hk := hk) (hc := hc) (vl := vl) (wy := wy) (ya := ya) (vv := vv) (vt := vt) (ot := ot) (ra := ra) (br := br) (oc := oc) (tk := tk) (cn := cn) (lf := lf) (la := la) (pc := pc) (yh := yh) (yk := yk) (ho := ho) (vs := vs) (os := os) hkd hS hL hs hv hx hD hk0 (if_pos rfl) hmm hn hnu hle
  refine ⟨act, u1, v1, _, hP, fun post hp => ?_, w1, fun post hp => ?_, w3⟩
  · subst hx
    exact ⟨hv, nm_r hk0 (br_f (by decide) (br_f (by decide) (br_t rfl (⟨hv, nm_e ⟨hv, nm_e hp⟩⟩))))⟩
  · subst hx
    exact ⟨hv, nm_r hk0 (br_f (by decide) (br_t rfl ⟨hv, nm_e (br_t rfl ⟨hv, hv, hv, nm_e (w2 _ (sy_eta hp))⟩)⟩))⟩
theorem en_15 (hkd : ∀ t, t < S → (kd t).toNatClampNeg ≤ 16) (hS : S ≤ 8) (hL : L ≤ 150) (hs : s < S) (hv : vp_in x 8) (hx : x.toNatClampNeg = s) (h : dd_D S L m le kd nu g e r b 2 (s + 1) q sn ya bg ct ls hd hk hc lf la pc yb yh yk ho) (hk0 : kd s = nI 15) :
    ∃ (act : Int32) (u1 : SX) (v1 : SY) (P1 : Nat), rn_P S g b 2 (s + 1) < P1 ∧ (∀ post : SX → Prop, post (nI L, pn, wp, nI m, nI S, se, fl, nI q, 0, nI s, 0, el, rs, sn, it, le, pe, op, kd, nu, co, cl, ap, rd, si, upd bg s (vp_nar .boolean 1), upd ct s 0, ls, hd, hk, hc, vl) → wpX_endCame post (nI L, pn, wp, nI m, nI S, se, fl, nI q, 0, nI s, 2, el, rs, sn, it, le, pe, op, kd, nu, co, cl, ap, rd, si, bg, ct, ls, hd, hk, hc, vl) x) ∧
      (∀ post : SX → Prop, post u1 → wpX_stageAsked post (nI L, pn, wp, nI m, nI S, se, fl, nI q, 0, nI s, 0, el, rs, sn, it, le, pe, op, kd, nu, co, cl, ap, rd, si, upd bg s (vp_nar .boolean 1), upd ct s 0, ls, hd, hk, hc, vl) x) ∧
      (∀ post : Int32 → SY → Prop, post act v1 → wpY_ended post (nI L, nI m, nI S, wy, nI q, ya, se, fl, vv, vt, ot, ra, br, oc, it, le, tk, cn, kd, nu, lf, la, pc, yb, yh, yk, ho, ap, rd, si, vs, os) x) ∧ rr_N pn wp se wy ra it le pe op kd nu co cl si tk cn L S m P1 (s + 1) act u1 v1 := by
  have hkc : (kd s).toNatClampNeg = 15 := by rw [hk0]; exact nI_clamp (by omega)
  obtain ⟨hbb, j, hj, hhc, hho, hj0, _, heq⟩ := dd_get h hs hk0 (by omega)
  have hb0 : b s = 0 := h.2.2.2.2.2.2.1 s hs (Or.inr ⟨rfl, by decide⟩) (by rw [hkc]; simp [rn_cl])
  have := hj0 hb0
  subst this
  obtain ⟨hP, hD⟩ := md_beg (bg' := upd bg s (vp_nar .boolean 1)) (ct' := upd ct s 0) (ls' := ls) (hc' := hc) (hd' := hd) (hk' := hk) (lf' := lf) (la' := la) (pc' := upd pc s (ho s - 1)) (yb' := upd yb s (vp_nar .boolean 1)) (yh' := yh) (yk' := yk) (ho' := ho) hkd hS hs h ⟨fun t ht => by simp [pk_un ht], fun i hi => ⟨rfl, rfl⟩, fun i hi => ⟨rfl, rfl⟩⟩ (by simp [rn_cl]) hkc (fun P' hP => by
    refine ⟨⟨by rw [pk_us, pk_us], Or.inr ⟨rfl, by rw [pk_us, vn_1]⟩⟩, 0, hj, hhc, hho, fun z => absurd z (by decide), fun _ => ⟨pk_us, ?_⟩, heq⟩
    rw [pk_us, hho]; exact rn_pred (r s))
  obtain ⟨act, u1, v1, w1, w2, w3⟩ := rv_in (pn := pn) (wp := wp) (se := se) (fl := fl) (el := el) (rs := rs) (sn := sn) (it := it) (le := le) (pe := pe) (op := op) (kd := kd) (nu := nu) (co := co) (cl := cl) (ap := ap) (rd := rd) (si := si) (ls := ls) (hd := hd) (hk := hk) (hc := hc) (vl := vl) (wy := wy) (ya := ya) (vv := vv) (vt := vt) (ot := ot) (ra := ra) (br := br) (oc := oc) (tk := tk) (cn := cn) (lf := lf) (la := la) (yh := yh) (yk := yk) (ho := ho) (vs := vs) (os := os) hkd hS hL hs hv hx hD hk0 (if_pos rfl)
  refine ⟨act, u1, v1, _, hP, fun post hp => ?_, w1, fun post hp => ?_, w3⟩
  · subst hx
    exact ⟨hv, nm_r hk0 (br_f (by decide) (br_f (by decide) (br_f (by decide) (br_f (by decide) (br_f (by decide) (br_f (by decide) (br_f (by decide) (br_f (by decide) (br_t rfl (⟨hv, nm_e ⟨hv, nm_e hp⟩⟩))))))))))⟩
  · subst hx
    exact ⟨hv, nm_r hk0 (br_t (by decide) ⟨hv, nm_e (br_f (by decide) (br_t rfl ⟨hv, hv, nm_e (w2 _ (sy_eta hp))⟩))⟩)⟩
theorem en_14 (hkd : ∀ t, t < S → (kd t).toNatClampNeg ≤ 16) (hS : S ≤ 8) (hL : L ≤ 150) (hs : s < S) (hv : vp_in x 8) (hx : x.toNatClampNeg = s) (h : dd_D S L m le kd nu g e r b 2 (s + 1) q sn ya bg ct ls hd hk hc lf la pc yb yh yk ho) (hk0 : kd s = nI 14) :
    ∃ (act : Int32) (u1 : SX) (v1 : SY) (P1 : Nat), rn_P S g b 2 (s + 1) < P1 ∧ (∀ post : SX → Prop, post (nI L, pn, wp, nI m, nI S, se, fl, nI q, 0, nI s, 0, el, rs, sn, it, le, pe, op, kd, nu, co, cl, ap, rd, si, upd bg s (vp_nar .boolean 1), upd ct s 0, ls, hd, hk, hc, vl) → wpX_endCame post (nI L, pn, wp, nI m, nI S, se, fl, nI q, 0, nI s, 2, el, rs, sn, it, le, pe, op, kd, nu, co, cl, ap, rd, si, bg, ct, ls, hd, hk, hc, vl) x) ∧
      (∀ post : SX → Prop, post u1 → wpX_stageAsked post (nI L, pn, wp, nI m, nI S, se, fl, nI q, 0, nI s, 0, el, rs, sn, it, le, pe, op, kd, nu, co, cl, ap, rd, si, upd bg s (vp_nar .boolean 1), upd ct s 0, ls, hd, hk, hc, vl) x) ∧
      (∀ post : Int32 → SY → Prop, post act v1 → wpY_ended post (nI L, nI m, nI S, wy, nI q, ya, se, fl, vv, vt, ot, ra, br, oc, it, le, tk, cn, kd, nu, lf, la, pc, yb, yh, yk, ho, ap, rd, si, vs, os) x) ∧ rr_N pn wp se wy ra it le pe op kd nu co cl si tk cn L S m P1 (s + 1) act u1 v1 := by
  have hkc : (kd s).toNatClampNeg = 14 := by rw [hk0]; exact nI_clamp (by omega)
  obtain ⟨hbb, j, hj, hhc, hho, hyp, hj0, _, hsort⟩ := dd_get h hs hk0 (by omega)
  have hb0 : b s = 0 := h.2.2.2.2.2.2.1 s hs (Or.inr ⟨rfl, by decide⟩) (by rw [hkc]; simp [rn_cl])
  have := hj0 hb0
  subst this
  obtain ⟨hP, hD⟩ := md_beg (bg' := upd bg s (vp_nar .boolean 1)) (ct' := upd ct s 0) (ls' := ls) (hc' := hc) (hd' := hd) (hk' := hk) (lf' := lf) (la' := la) (pc' := pc) (yb' := upd yb s (vp_nar .boolean 1)) (yh' := yh) (yk' := yk) (ho' := ho) hkd hS hs h ⟨fun t ht => by simp [pk_un ht], fun i hi => ⟨rfl, rfl⟩, fun i hi => ⟨rfl, rfl⟩⟩ (by simp [rn_cl]) hkc (fun P' hP => by
    refine ⟨⟨by rw [pk_us, pk_us], Or.inr ⟨rfl, by rw [pk_us, vn_1]⟩⟩, 0, hj, hhc, hho, hyp, fun z => absurd z (by decide), fun _ => pk_us, hsort⟩)
  obtain ⟨act, u1, v1, w1, w2, w3⟩ := so_in (pn := pn) (wp := wp) (se := se) (fl := fl) (el := el) (rs := rs) (sn := sn) (it := it) (le := le) (pe := pe) (op := op) (kd := kd) (nu := nu) (co := co) (cl := cl) (ap := ap) (rd := rd) (si := si) (ls := ls) (hd := hd) (hk := hk) (hc := hc) (vl := vl) (wy := wy) (ya := ya) (vv := vv) (vt := vt) (ot := ot) (ra := ra) (br := br) (oc := oc) (tk := tk) (cn := cn) (lf := lf) (la := la) (pc := pc) (yh := yh) (yk := yk) (ho := ho) (vs := vs) (os := os) hkd hS hL hs hv hx hD hk0 (if_pos rfl)
  refine ⟨act, u1, v1, _, hP, fun post hp => ?_, w1, fun post hp => ?_, w3⟩
  · subst hx
    exact ⟨hv, nm_r hk0 (br_f (by decide) (br_f (by decide) (br_f (by decide) (br_f (by decide) (br_f (by decide) (br_f (by decide) (br_f (by decide) (br_t rfl (⟨hv, nm_e ⟨hv, nm_e hp⟩⟩)))))))))⟩
  · subst hx
    exact ⟨hv, nm_r hk0 (br_t (by decide) ⟨hv, nm_e (br_f (by decide) (br_f (by decide) (w2 _ (sy_eta hp))))⟩)⟩
theorem en_16 (hkd : ∀ t, t < S → (kd t).toNatClampNeg ≤ 16) (hS : S ≤ 8) (hL : L ≤ 150) (hs : s < S) (hv : vp_in x 8) (hx : x.toNatClampNeg = s) (h : dd_D S L m le kd nu g e r b 2 (s + 1) q sn ya bg ct ls hd hk hc lf la pc yb yh yk ho) (hk0 : kd s = nI 16) :
    ∃ (act : Int32) (u1 : SX) (v1 : SY) (P1 : Nat), rn_P S g b 2 (s + 1) < P1 ∧ (∀ post : SX → Prop, post (nI L, pn, wp, nI m, nI S, se, fl, nI q, 0, nI s, 0, el, rs, sn, it, le, pe, op, kd, nu, co, cl, ap, rd, si, upd bg s (vp_nar .boolean 1), upd ct s 0, ls, hd, hk, hc, vl) → wpX_endCame post (nI L, pn, wp, nI m, nI S, se, fl, nI q, 0, nI s, 2, el, rs, sn, it, le, pe, op, kd, nu, co, cl, ap, rd, si, bg, ct, ls, hd, hk, hc, vl) x) ∧
      (∀ post : SX → Prop, post u1 → wpX_stageAsked post (nI L, pn, wp, nI m, nI S, se, fl, nI q, 0, nI s, 0, el, rs, sn, it, le, pe, op, kd, nu, co, cl, ap, rd, si, upd bg s (vp_nar .boolean 1), upd ct s 0, ls, hd, hk, hc, vl) x) ∧
      (∀ post : Int32 → SY → Prop, post act v1 → wpY_ended post (nI L, nI m, nI S, wy, nI q, ya, se, fl, vv, vt, ot, ra, br, oc, it, le, tk, cn, kd, nu, lf, la, pc, yb, yh, yk, ho, ap, rd, si, vs, os) x) ∧ rr_N pn wp se wy ra it le pe op kd nu co cl si tk cn L S m P1 (s + 1) act u1 v1 := by
  have hkc : (kd s).toNatClampNeg = 16 := by rw [hk0]; exact nI_clamp (by omega)
  obtain ⟨hbb, j, hj, hhc, hho, hyp, hj0, _, heq⟩ := dd_get h hs hk0 (by omega)
  have hb0 : b s = 0 := h.2.2.2.2.2.2.1 s hs (Or.inr ⟨rfl, by decide⟩) (by rw [hkc]; simp [rn_cl])
  have := hj0 hb0
  subst this
  obtain ⟨hP, hD⟩ := md_beg (bg' := upd bg s (vp_nar .boolean 1)) (ct' := upd ct s 0) (ls' := ls) (hc' := hc) (hd' := hd) (hk' := hk) (lf' := lf) (la' := la) (pc' := pc) (yb' := upd yb s (vp_nar .boolean 1)) (yh' := yh) (yk' := yk) (ho' := ho) hkd hS hs h ⟨fun t ht => by simp [pk_un ht], fun i hi => ⟨rfl, rfl⟩, fun i hi => ⟨rfl, rfl⟩⟩ (by simp [rn_cl]) hkc (fun P' hP => by
    refine ⟨⟨by rw [pk_us, pk_us], Or.inr ⟨rfl, by rw [pk_us, vn_1]⟩⟩, 0, hj, hhc, hho, hyp, fun z => absurd z (by decide), fun _ => pk_us, heq⟩)
  obtain ⟨act, u1, v1, w1, w2, w3⟩ := gr_in (pn := pn) (wp := wp) (se := se) (fl := fl) (el := el) (rs := rs) (sn := sn) (it := it) (le := le) (pe := pe) (op := op) (kd := kd) (nu := nu) (co := co) (cl := cl) (ap := ap) (rd := rd) (si := si) (ls := ls) (hd := hd) (hk := hk) (hc := hc) (vl := vl) (wy := wy) (ya := ya) (vv := vv) (vt := vt) (ot := ot) (ra := ra) (br := br) (oc := oc) (tk := tk) (cn := cn) (lf := lf) (la := la) (pc := pc) (yh := yh) (yk := yk) (ho := ho) (vs := vs) (os := os) hkd hS hL hs hv hx hD hk0 (if_pos rfl)
  refine ⟨act, u1, v1, _, hP, fun post hp => ?_, w1, fun post hp => ?_, w3⟩
  · subst hx
    exact ⟨hv, nm_r hk0 (br_f (by decide) (br_f (by decide) (br_f (by decide) (br_f (by decide) (br_f (by decide) (br_f (by decide) (br_f (by decide) (br_f (by decide) (br_f (by decide) (br_t rfl (⟨hv, nm_e ⟨hv, nm_e hp⟩⟩)))))))))))⟩
  · subst hx
    exact ⟨hv, nm_r hk0 (br_t (by decide) ⟨hv, nm_e (br_f (by decide) (br_f (by decide) (w2 _ (sy_eta hp))))⟩)⟩
end
