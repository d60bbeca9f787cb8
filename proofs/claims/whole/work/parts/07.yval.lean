section
variable {lm pn wp sr sc se fl sp pt sg el rs sn wy ya vv vt ot ra br : Int32} {en oc : Int64} {it le pe op kd nu co cl ap rd si bg ct ls hd hk hc vl tk cn lf la pc yb yh yk ho vs os : Nat → Int32}
theorem yr_21 (s : Nat) (hs : s < 8) (tq : Nat → Int32) (N : Nat) (hN : N ≤ 16) (hW : ex_WF tq N) (hcn : cn (s + 1) = nI N) (htk : ∀ i, i < N → tk (16 * (s + 1) + i) = tq i) (x y k : Int32) :
    ∀ (r i : Nat), i + r = N → ∀ (os vs : Nat → Int32), ex_stk os ((ex_cs tq i).2.1.map ex_yo) → ex_stk vs (ex_ev x y k (ex_cs tq i).2.2).1 →
    ∃ (vt' ot' : Int32) (vs' os' : Nat → Int32), ∀ (post : Int32 → SY → Prop) (n : Nat), r < n → post ((ex_ev x y k (ex_code tq N)).1.headD 0) (lm, sr, sc, wy, sp, ya, se, fl, vv, vt', ot', ra, ex_bi (ex_ev x y k (ex_code tq N)).2, oc, it, le, tk, cn, kd, nu, lf, la, pc, yb, yh, yk, ho, ap, rd, si, vs', os') →
      wY_value_21 post (nI s) x y k n (ex_bi (ex_cs tq i).1) (nI i) lm sr sc wy sp ya se fl vv (nI (ex_ev x y k (ex_cs tq i).2.2).1.length) (nI (ex_cs tq i).2.1.length) ra (ex_bi (ex_ev x y k (ex_cs tq i).2.2).2) oc it le tk cn kd nu lf la pc yb yh yk ho ap rd si vs os := by
  have hs1 : nI s + 1 = nI (s + 1) := nI_1 s
  have hs2 : vp_in (nI s + 1) 9 := by rw [hs1]; exact vp_in_nI (by omega) (by omega)
  have hs3 : (nI s + 1).toNatClampNeg = s + 1 := by rw [hs1, nI_clamp (by omega)]
  have hix : ∀ i, 16 * (nI s + 1) + nI i = nI (16 * (s + 1) + i) := fun i => by
    rw [hs1, show (16 : Int32) = nI 16 from rfl, pk_mul, nI_add]
  intro r
  induction r with
  | zero =>
    intro i hi os vs h1 h2
    have : i = N := by omega
    subst this
    have hv := ex_inv_at hW.1 i (Nat.le_refl _)
    have hf := ex_fin hW
    have hfc : ex_fit (ex_code tq i) 0 := hf.2.2.1
    have hlenC := ex_ev_len x y k _ hv.2.1
    have hle := ex_hgt_le (ex_cs tq i).2.2 0
    have hvl := hv.2.2.2
    obtain ⟨vs', g1, g2⟩ := yr_280 (lm := lm) (sr := sr) (sc := sc) (wy := wy) (sp := sp) (ya := ya) (se := se) (fl := fl) (vv := vv) (ra := ra) (oc := oc) (it := it) (le := le) (tk := tk) (cn := cn) (kd := kd) (nu := nu) (lf := lf) (la := la) (pc := pc) (yb := yb) (yh := yh) (yk := yk) (ho := ho) (ap := ap) (rd := rd) (si := si) (os := os) x y k (ex_cs tq i).2.1 (ex_ev x y k (ex_cs tq i).2.2).1 (ex_ev x y k (ex_cs tq i).2.2).2 vs hf.1 hv.1 (by omega) (by omega) h1 h2
      (by rw [hlenC]; exact ex_fit_r _ _ _ hfc)
    have hfo : ex_fo x y k (ex_pop 1 (ex_cs tq i).2.1).1 ((ex_ev x y k (ex_cs tq i).2.2).1, (ex_ev x y k (ex_cs tq i).2.2).2) = ex_ev x y k (ex_code tq i) := (ex_ev_snoc x y k _ _).symm
    rw [hfo] at g1 g2
    have hl1 : (ex_ev x y k (ex_code tq i)).1.length = 1 := by
      rw [ex_ev_len x y k _ hfc, hf.2.2.2.1]; rfl
    have hh : vs' 0 = (ex_ev x y k (ex_code tq i)).1.headD 0 := by
      generalize (ex_ev x y k (ex_code tq i)).1 = st at *
      match st, hl1, g1 with
      | [v], _, g1 => exact g1.1
    refine ⟨nI (ex_ev x y k (ex_code tq i)).1.length, 0, vs', os, fun post n hn h => ?_⟩
    obtain ⟨m, rfl⟩ : ∃ m, n = m + 1 := ⟨n - 1, by omega⟩
    refine ⟨hs2, br_t ?_ ⟨_, g2 post _ (Nat.lt_succ_self _) ?_⟩⟩
    · rw [hs3, hcn]; exact Int32.le_refl _
    · rw [hh]; exact h
  | succ r IH =>
    intro i hi os vs h1 h2
    have hiN : i < N := by omega
    have hv := ex_inv_at hW.1 i (by omega)
    have hlg := hW.1 i hiN
    have IH := IH (i + 1) (by omega)
    have hcs : ex_cs tq (i + 1) = ex_step (tq i) (ex_cs tq i).1 (ex_cs tq i).2.1 (ex_cs tq i).2.2 := rfl
    rw [hcs] at IH
    have hNi : ¬ cn (nI s + 1).toNatClampNeg ≤ nI i := by rw [hs3, hcn]; exact nI_ge hiN (by omega)
    have hin : vp_in (16 * (nI s + 1) + nI i) 144 := by rw [hix]; exact vp_in_nI (by omega) (by omega)
    have ht : tk (16 * (nI s + 1) + nI i).toNatClampNeg = tq i := by rw [hix, nI_clamp (by omega)]; exact htk i hiN
    generalize ex_cs tq i = c at *
    obtain ⟨d, ops, code⟩ := c
    dsimp only at *
    generalize tq i = t at *
    have hlen := hv.2.2.2
    have hlenC := ex_ev_len x y k _ hv.2.1
    have hle := ex_hgt_le code 0
    have hvo : vp_in (nI ops.length) 20 := vp_in_nI (by omega) (by omega)
    have hco : (nI ops.length).toNatClampNeg = ops.length := nI_clamp (by omega)
    cases d with
    | true =>
      rcases hlg.1 rfl with rfl | rfl | ho
      · have e : ex_step 12 true ops code = (true, 12 :: ops, code) := by unfold ex_step; rw [if_neg (by decide), if_neg (by decide), if_pos rfl]
        rw [e] at IH
        obtain ⟨vt', ot', vs', os', g⟩ := IH (upd os ops.length 12) vs (by have := ex_stk_push os 12 _ h1; rw [List.length_map] at this; exact this) h2
        refine ⟨vt', ot', vs', os', fun post n hn h => ?_⟩
        obtain ⟨m, rfl⟩ : ∃ m, n = m + 1 := ⟨n - 1, by omega⟩
        exact ⟨hs2, br_f hNi ⟨hin, nm_r ht (br_t rfl (nm_r (nI_1 _) ⟨hvo, nm_r (by rw [hco]) (nm_r (nI_1 _) (g post m (by omega) h))⟩))⟩⟩
      · have e : ex_step 5 true ops code = (true, 14 :: ops, code) := by unfold ex_step; rw [if_neg (by decide), if_neg (by decide), if_neg (by decide), if_pos ⟨rfl, rfl⟩]
        rw [e] at IH
        obtain ⟨vt', ot', vs', os', g⟩ := IH (upd os ops.length 20) vs (by have := ex_stk_push os 20 _ h1; rw [List.length_map] at this; exact this) h2
        refine ⟨vt', ot', vs', os', fun post n hn h => ?_⟩
        obtain ⟨m, rfl⟩ : ∃ m, n = m + 1 := ⟨n - 1, by omega⟩
        exact ⟨hs2, br_f hNi ⟨hin, nm_r ht (br_f (by decide) (br_f (by decide) (br_t rfl (nm_r (nI_1 _) ⟨hvo, nm_r (by rw [hco]) (nm_r (nI_1 _) (g post m (by omega) h))⟩))))⟩⟩
      · have e : ex_step t true ops code = (false, ops, code ++ [t]) := by unfold ex_step; rw [if_pos ho]
        have e2 : ex_ev x y k (code ++ [t]) = (ex_val x y k t :: (ex_ev x y k code).1, (ex_ev x y k code).2) := by
          rw [ex_ev_app]; unfold ex_xs; rw [if_pos ho]
        rw [e] at IH
        dsimp only at IH
        rw [e2] at IH
        dsimp only at IH
        generalize ex_ev x y k code = st at *
        obtain ⟨st, b⟩ := st
        dsimp only at *
        have hvv : vp_in (nI st.length) 20 := vp_in_nI (by omega) (by omega)
        have hcv : (nI st.length).toNatClampNeg = st.length := nI_clamp (by omega)
        obtain ⟨vt', ot', vs', os', g⟩ := IH os (upd vs st.length (ex_val x y k t)) h1 (ex_stk_push _ _ _ h2)
        refine ⟨vt', ot', vs', os', fun post n hn h => ?_⟩
        obtain ⟨m, rfl⟩ : ∃ m, n = m + 1 := ⟨n - 1, by omega⟩
        have h12 : ¬ t = 12 := by intro z; rw [z] at ho; exact absurd ho (by decide)
        have h5 : ¬ t = 5 := by intro z; rw [z] at ho; exact absurd ho (by decide)
        refine ⟨hs2, br_f hNi ⟨hin, nm_r ht (br_f h12 (br_f (by decide) (br_f h5 (br_f (by decide) (nm_r (nI_1 _) (br_c (fun c => ?_) (fun c1 => br_c (fun c => ?_) (fun c2 => br_c (fun c => ?_) (fun c3 => ?_)))))))))⟩⟩
        · exact ⟨hvv, nm_r (by rw [hcv]; unfold ex_val; rw [if_pos c]) (nm_r (nI_1 _) (g post m (by omega) h))⟩
        · exact ⟨hvv, nm_r (by rw [hcv]; unfold ex_val; rw [if_neg c1, if_pos c]) (nm_r (nI_1 _) (g post m (by omega) h))⟩
        · exact ⟨hvv, nm_r (by rw [hcv]; unfold ex_val; rw [if_neg c1, if_neg c2, if_pos c]) (nm_r (nI_1 _) (g post m (by omega) h))⟩
        · exact ⟨hvv, nm_r (by rw [hcv]; unfold ex_val; rw [if_neg c1, if_neg c2, if_neg c3]) (nm_r (nI_1 _) (g post m (by omega) h))⟩
    | false =>
      rcases hlg.2 rfl with ⟨rfl, hm⟩ | hb
      · have e : ex_step 13 false ops code = (false, (ex_pop 1 ops).2.tail, code ++ (ex_pop 1 ops).1) := by
          unfold ex_step; rw [if_neg (by decide), if_pos rfl]
        have hp := ex_inv_pop 1 (Nat.le_refl _) hv
        have hfo : ex_ev x y k (code ++ (ex_pop 1 ops).1) = ex_fo x y k (ex_pop 1 ops).1 ((ex_ev x y k code).1, (ex_ev x y k code).2) := ex_ev_snoc x y k _ _
        rw [e] at IH
        dsimp only at IH
        rw [hfo] at IH
        rcases ex_pop_head ops hv.1 with ⟨_, b⟩ | ⟨q, hq⟩
        · exact absurd hm b
        · have hst : ex_stk os (((ex_pop 1 ops).2).map ex_yo) := ex_stk_app os ((ex_pop 1 ops).1.map ex_yo) _ (by rw [← List.map_append, ex_pop_eq]; exact h1)
          obtain ⟨vs1, w1, w2⟩ := yr_181 (lm := lm) (sr := sr) (sc := sc) (wy := wy) (sp := sp) (ya := ya) (se := se) (fl := fl) (vv := vv) (ra := ra) (oc := oc) (it := it) (le := le) (tk := tk) (cn := cn) (kd := kd) (nu := nu) (lf := lf) (la := la) (pc := pc) (yb := yb) (yh := yh) (yk := yk) (ho := ho) (ap := ap) (rd := rd) (si := si) (os := os) x y k (nI s) (ex_bi false) i q ops (ex_ev x y k code).1 (ex_ev x y k code).2 vs hq hv.1 (by omega) (by omega) h1 h2 (by rw [hlenC]; exact ex_fit_r _ _ _ hp.2.1)
          rw [hq] at IH hst
          obtain ⟨vt', ot', vs', os', g⟩ := IH os vs1 hst.2 w1
          refine ⟨vt', ot', vs', os', fun post n hn h => ?_⟩
          obtain ⟨m, rfl⟩ : ∃ m, n = m + 1 := ⟨n - 1, by omega⟩
          exact ⟨hs2, br_f hNi ⟨hin, nm_r ht (br_f (by decide) (br_t rfl (br_t rfl (br_t rfl ⟨_, w2 _ post _ (Nat.lt_succ_self _) (g post m (by omega) h)⟩))))⟩⟩
      · obtain ⟨b1, b2, b3, b4, b5⟩ := ex_bin_no hb
        have e : ex_step t false ops code = (true, t :: (ex_pop (ex_rk t) ops).2, code ++ (ex_pop (ex_rk t) ops).1) := by
          unfold ex_step; rw [if_neg (by simp [b1]), if_neg b4, if_neg b3, if_neg (by simp)]
        have hp := ex_inv_pop (ex_rk t) b5 hv
        have hfo : ex_ev x y k (code ++ (ex_pop (ex_rk t) ops).1) = ex_fo x y k (ex_pop (ex_rk t) ops).1 ((ex_ev x y k code).1, (ex_ev x y k code).2) := ex_ev_snoc x y k _ _
        rw [e] at IH
        dsimp only at IH
        rw [hfo] at IH
        have hst : ex_stk os (((ex_pop (ex_rk t) ops).2).map ex_yo) := ex_stk_app os ((ex_pop (ex_rk t) ops).1.map ex_yo) _ (by rw [← List.map_append, ex_pop_eq]; exact h1)
        have hpl := ex_pop_len (ex_rk t) ops
        obtain ⟨vs1, w1, w2⟩ := yr_217 (lm := lm) (sr := sr) (sc := sc) (wy := wy) (sp := sp) (ya := ya) (se := se) (fl := fl) (vv := vv) (ra := ra) (oc := oc) (it := it) (le := le) (tk := tk) (cn := cn) (kd := kd) (nu := nu) (lf := lf) (la := la) (pc := pc) (yb := yb) (yh := yh) (yk := yk) (ho := ho) (ap := ap) (rd := rd) (si := si) (os := os) x y k (nI s) (nI i) t hb ops (ex_ev x y k code).1 (ex_ev x y k code).2 vs hv.1 (by omega) (by omega) h1 h2 (by rw [hlenC]; exact ex_fit_r _ _ _ hp.2.1)
        obtain ⟨vt', ot', vs', os', g⟩ := IH (upd os (ex_pop (ex_rk t) ops).2.length t) vs1 (by
          have := ex_stk_push os t _ hst; rw [List.length_map] at this
          rw [List.map_cons, show ex_yo t = t from by unfold ex_yo; rw [if_neg b2]]; exact this) w1
        refine ⟨vt', ot', vs', os', fun post n hn h => ?_⟩
        obtain ⟨m, rfl⟩ : ∃ m, n = m + 1 := ⟨n - 1, by omega⟩
        refine ⟨hs2, br_f hNi ⟨hin, nm_r ht (br_f b3 (br_t rfl (br_t rfl (br_f b4 ⟨_, w2 _ post _ (Nat.lt_succ_self _) ?_⟩))))⟩⟩
        exact nm_r (nI_1 _) ⟨vp_in_nI (by omega) (by omega), nm_r (by rw [nI_clamp (by omega)]) (nm_r (nI_1 _) (g post m (by omega) h))⟩
theorem yr_value (s : Nat) (hs : s < 8) (tq : Nat → Int32) (N : Nat) (hN : N ≤ 16) (hW : ex_WF tq N) (hcn : cn (s + 1) = nI N) (htk : ∀ i, i < N → tk (16 * (s + 1) + i) = tq i) (x y k : Int32) :
    ∃ (vt' ot' : Int32) (vs' os' : Nat → Int32), ∀ (post : Int32 → SY → Prop), post ((ex_ev x y k (ex_code tq N)).1.headD 0) (lm, sr, sc, wy, sp, ya, se, fl, vv, vt', ot', ra, ex_bi (ex_ev x y k (ex_code tq N)).2, oc, it, le, tk, cn, kd, nu, lf, la, pc, yb, yh, yk, ho, ap, rd, si, vs', os') → wpY_value post (lm, sr, sc, wy, sp, ya, se, fl, vv, vt, ot, ra, br, oc, it, le, tk, cn, kd, nu, lf, la, pc, yb, yh, yk, ho, ap, rd, si, vs, os) (nI s) x y k := by
  obtain ⟨vt', ot', vs', os', g⟩ := yr_21 (lm := lm) (sr := sr) (sc := sc) (wy := wy) (sp := sp) (ya := ya) (se := se) (fl := fl) (vv := vv) (ra := ra) (oc := oc) (it := it) (le := le) (tk := tk) (cn := cn) (kd := kd) (nu := nu) (lf := lf) (la := la) (pc := pc) (yb := yb) (yh := yh) (yk := yk) (ho := ho) (ap := ap) (rd := rd) (si := si) s hs tq N hN hW hcn htk x y k N 0 (by omega) os vs trivial trivial
  exact ⟨vt', ot', vs', os', fun post h => ⟨_, g post _ (Nat.lt_succ_self _) h⟩⟩
end
