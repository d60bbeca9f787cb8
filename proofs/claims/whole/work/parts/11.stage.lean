theorem st_17 {q : Nat} (hq : q ≤ 16) : q = 0 ∨ q = 1 ∨ q = 2 ∨ q = 3 ∨ q = 4 ∨ q = 5 ∨ q = 6 ∨ q = 7 ∨ q = 8 ∨ q = 9 ∨ q = 10 ∨ q = 11 ∨ q = 12 ∨ q = 13 ∨ q = 14 ∨ q = 15 ∨ q = 16 := by omega
theorem xr_hx {q : Nat} (hq : q ≤ 16) {post : Int32 → Prop} (h : post (ex_bi (rl_hx q))) : wpX_hasExpression post (nI q) := by
  rcases st_17 hq with rfl | rfl | rfl | rfl | rfl | rfl | rfl | rfl | rfl | rfl | rfl | rfl | rfl | rfl | rfl | rfl | rfl
  · exact br_f (by decide) (br_f (by decide) (br_t rfl h))
  · exact br_f (by decide) (br_f (by decide) (br_f (by decide) (br_t rfl h)))
  · exact br_f (by decide) (br_f (by decide) (br_f (by decide) (br_f (by decide) (br_t rfl h))))
  · exact br_f (by decide) (br_f (by decide) (br_f (by decide) (br_f (by decide) (br_f (by decide) (br_t rfl h)))))
  · exact br_f (by decide) (br_f (by decide) (br_f (by decide) (br_f (by decide) (br_f (by decide) (br_f (by decide) (br_t rfl h))))))
  · exact br_f (by decide) (br_f (by decide) (br_f (by decide) (br_f (by decide) (br_f (by decide) (br_f (by decide) (br_f (by decide) (br_t rfl h)))))))
  · exact br_f (by decide) (br_f (by decide) (br_f (by decide) (br_f (by decide) (br_f (by decide) (br_f (by decide) (br_f (by decide) (br_f (by decide) (br_t rfl h))))))))
  · exact br_f (by decide) (br_f (by decide) (br_f (by decide) (br_f (by decide) (br_f (by decide) (br_f (by decide) (br_f (by decide) (br_f (by decide) (br_f (by decide) (br_t rfl h)))))))))
  · exact br_f (by decide) (br_f (by decide) (br_f (by decide) (br_f (by decide) (br_f (by decide) (br_f (by decide) (br_f (by decide) (br_f (by decide) (br_f (by decide) (br_f (by decide) (br_t rfl h))))))))))
  · exact br_f (by decide) (br_f (by decide) (br_f (by decide) (br_f (by decide) (br_f (by decide) (br_f (by decide) (br_f (by decide) (br_f (by decide) (br_f (by decide) (br_f (by decide) (br_f (by decide) (br_t rfl h)))))))))))
  · exact br_f (by decide) (br_f (by decide) (br_f (by decide) (br_f (by decide) (br_f (by decide) (br_f (by decide) (br_f (by decide) (br_f (by decide) (br_f (by decide) (br_f (by decide) (br_f (by decide) (br_f (by decide) (br_t rfl h))))))))))))
  · exact br_f (by decide) (br_f (by decide) (br_f (by decide) (br_f (by decide) (br_f (by decide) (br_f (by decide) (br_f (by decide) (br_f (by decide) (br_f (by decide) (br_f (by decide) (br_f (by decide) (br_f (by decide) (br_f (by decide) (br_t rfl h)))))))))))))
  · exact br_f (by decide) (br_f (by decide) (br_f (by decide) (br_f (by decide) (br_f (by decide) (br_f (by decide) (br_f (by decide) (br_f (by decide) (br_f (by decide) (br_f (by decide) (br_f (by decide) (br_f (by decide) (br_f (by decide) (br_f (by decide) (br_t rfl h))))))))))))))
  · exact br_f (by decide) (br_f (by decide) (br_f (by decide) (br_f (by decide) (br_f (by decide) (br_f (by decide) (br_f (by decide) (br_f (by decide) (br_f (by decide) (br_f (by decide) (br_f (by decide) (br_f (by decide) (br_f (by decide) (br_f (by decide) (br_f (by decide) (br_t rfl h)))))))))))))))
  · exact br_f (by decide) (br_f (by decide) (br_f (by decide) (br_f (by decide) (br_f (by decide) (br_f (by decide) (br_f (by decide) (br_f (by decide) (br_f (by decide) (br_f (by decide) (br_f (by decide) (br_f (by decide) (br_f (by decide) (br_f (by decide) (br_f (by decide) (br_f (by decide) (br_t rfl h))))))))))))))))
  · exact br_f (by decide) (br_f (by decide) (br_f (by decide) (br_f (by decide) (br_f (by decide) (br_f (by decide) (br_f (by decide) (br_f (by decide) (br_f (by decide) (br_f (by decide) (br_f (by decide) (br_f (by decide) (br_f (by decide) (br_f (by decide) (br_f (by decide) (br_f (by decide) (br_f (by decide) (br_t rfl h)))))))))))))))))
  · exact br_f (by decide) (br_f (by decide) (br_f (by decide) (br_f (by decide) (br_f (by decide) (br_f (by decide) (br_f (by decide) (br_f (by decide) (br_f (by decide) (br_f (by decide) (br_f (by decide) (br_f (by decide) (br_f (by decide) (br_f (by decide) (br_f (by decide) (br_f (by decide) (br_f (by decide) (br_f (by decide) (br_t rfl h))))))))))))))))))
theorem yr_hx {q : Nat} (hq : q ≤ 16) {post : Int32 → Prop} (h : post (ex_bi (rl_hx q))) : wpY_hasExpression post (nI q) := by
  rcases st_17 hq with rfl | rfl | rfl | rfl | rfl | rfl | rfl | rfl | rfl | rfl | rfl | rfl | rfl | rfl | rfl | rfl | rfl
  · exact br_f (by decide) (br_f (by decide) (br_f (by decide) (br_f (by decide) (br_f (by decide) (br_f (by decide) (br_f (by decide) (br_f (by decide) h)))))))
  · exact br_f (by decide) (br_f (by decide) (br_f (by decide) (br_f (by decide) (br_f (by decide) (br_f (by decide) (br_f (by decide) (br_f (by decide) h)))))))
  · exact br_t rfl h
  · exact br_f (by decide) (br_t rfl h)
  · exact br_f (by decide) (br_f (by decide) (br_f (by decide) (br_f (by decide) (br_f (by decide) (br_f (by decide) (br_f (by decide) (br_f (by decide) h)))))))
  · exact br_f (by decide) (br_f (by decide) (br_f (by decide) (br_f (by decide) (br_f (by decide) (br_f (by decide) (br_f (by decide) (br_f (by decide) h)))))))
  · exact br_f (by decide) (br_f (by decide) (br_t rfl h))
  · exact br_f (by decide) (br_f (by decide) (br_f (by decide) (br_f (by decide) (br_f (by decide) (br_f (by decide) (br_f (by decide) (br_f (by decide) h)))))))
  · exact br_f (by decide) (br_f (by decide) (br_f (by decide) (br_t rfl h)))
  · exact br_f (by decide) (br_f (by decide) (br_f (by decide) (br_f (by decide) (br_t rfl h))))
  · exact br_f (by decide) (br_f (by decide) (br_f (by decide) (br_f (by decide) (br_f (by decide) (br_f (by decide) (br_f (by decide) (br_f (by decide) h)))))))
  · exact br_f (by decide) (br_f (by decide) (br_f (by decide) (br_f (by decide) (br_f (by decide) (br_t rfl h)))))
  · exact br_f (by decide) (br_f (by decide) (br_f (by decide) (br_f (by decide) (br_f (by decide) (br_f (by decide) (br_f (by decide) (br_f (by decide) h)))))))
  · exact br_f (by decide) (br_f (by decide) (br_f (by decide) (br_f (by decide) (br_f (by decide) (br_f (by decide) (br_t rfl h))))))
  · exact br_f (by decide) (br_f (by decide) (br_f (by decide) (br_f (by decide) (br_f (by decide) (br_f (by decide) (br_f (by decide) (br_f (by decide) h)))))))
  · exact br_f (by decide) (br_f (by decide) (br_f (by decide) (br_f (by decide) (br_f (by decide) (br_f (by decide) (br_f (by decide) (br_t rfl h)))))))
  · exact br_f (by decide) (br_f (by decide) (br_f (by decide) (br_f (by decide) (br_f (by decide) (br_f (by decide) (br_f (by decide) (br_f (by decide) h)))))))
def st_gd (k c : Int32) : Prop := (k = 6 → 1 ≤ c ∧ c ≤ 4) ∧ (k = 9 ∨ k = 10 ∨ k = 11 → ∃ j : Nat, j < 3 ∧ c = nI j)
theorem st_nl {c : Int32} (h : c < 0 ∨ nI 3 ≤ c) : ¬ ∃ j : Nat, j < 3 ∧ c = nI j := by
  rintro ⟨j, hj, rfl⟩
  rcases h with h | h
  · exact absurd h (nI_pos (by omega))
  · exact absurd h (nI_ge hj (by omega))
theorem xr_num {k c : Int32} {post : Int32 → Prop} (h1 : st_gd k c → post 1) (h0 : ¬ st_gd k c → post 0) : wpX_isNumberFor post k c := by
  have h40 : ¬ k = 6 → (k = 9 ∨ k = 10 ∨ k = 11) → wX_isNumberFor_40 post c := by
    intro h6 h9
    rcases rl_ix c with hx | ⟨j, hj, rfl⟩
    · exact xr_noList hx ⟨by decide, h0 (fun z => st_nl hx (z.2 h9))⟩
    · exact xr_isList hj rfl ⟨by decide, h1 ⟨fun z => absurd z h6, fun _ => ⟨j, hj, rfl⟩⟩⟩
  refine br_c (fun h6 => ?_) (fun h6 => br_c (fun h9 => h40 h6 (Or.inl h9)) (fun h9 => br_c (fun h10 => h40 h6 (Or.inr (Or.inl h10))) (fun h10 => br_c (fun h11 => h40 h6 (Or.inr (Or.inr h11))) (fun h11 => ?_))))
  · subst h6
    refine br_c (fun a => h0 (fun z => Int32.lt_irrefl (Int32.lt_of_lt_of_le a (z.1 rfl).1))) (fun a => br_c (fun b => h0 (fun z => Int32.lt_irrefl (Int32.lt_of_lt_of_le b (z.1 rfl).2))) (fun b => h1 ⟨fun _ => ⟨Int32.not_lt.mp a, Int32.not_lt.mp b⟩, fun z => absurd z (by decide)⟩))
  · exact h1 ⟨fun z => absurd z h6, fun z => by rcases z with z | z | z <;> contradiction⟩
section
variable {lm pn wp sr sc se fl sp pt sg el rs sn wy ya vv vt ot ra br : Int32} {en oc : Int64} {it le pe op kd nu co cl ap rd si bg ct ls hd hk hc vl tk cn lf la pc yb yh yk ho vs os : Nat → Int32}
theorem yr_num {k c : Int32} {post : Int32 → SY → Prop} (h1 : st_gd k c → wY_stage_70 post k c (sc + 1) 1 lm sr sc (-1) sp ya se fl vv vt ot ra br oc it le tk cn kd nu lf la pc yb yh yk ho ap rd si vs os) (h0 : ¬ st_gd k c → wY_stage_70 post k c (sc + 1) 0 lm sr sc (-1) sp ya se fl vv vt ot ra br oc it le tk cn kd nu lf la pc yb yh yk ho ap rd si vs os) : wpY_stage post (lm, sr, sc, wy, sp, ya, se, fl, vv, vt, ot, ra, br, oc, it, le, tk, cn, kd, nu, lf, la, pc, yb, yh, yk, ho, ap, rd, si, vs, os) k c := by
  have h36 : (k = 6 ∨ k = 9 ∨ k = 10 ∨ k = 11) → wY_stage_36 post k c (sc + 1) lm sr sc (-1) sp ya se fl vv vt ot ra br oc it le tk cn kd nu lf la pc yb yh yk ho ap rd si vs os := by
    intro hk
    refine br_c (fun h6 => ?_) (fun h6 => br_f h6 ?_)
    · have h52 : ¬ (1 ≤ c ∧ c ≤ 4) → wY_stage_52 post k c (sc + 1) lm sr sc (-1) sp ya se fl vv vt ot ra br oc it le tk cn kd nu lf la pc yb yh yk ho ap rd si vs os := fun z => br_t h6 (h0 (fun w => z (w.1 h6)))
      refine br_c (fun a => h52 (fun z => Int32.lt_irrefl (Int32.lt_of_lt_of_le a z.1))) (fun a => br_c (fun b => h1 ?_) (fun b => h52 (fun z => b z.2)))
      subst h6
      exact ⟨fun _ => ⟨Int32.not_lt.mp a, b⟩, fun z => absurd z (by decide)⟩
    · have h9 : k = 9 ∨ k = 10 ∨ k = 11 := hk.resolve_left h6
      rcases rl_ix c with hx | ⟨j, hj, rfl⟩
      · exact yr_noList hx (br_t rfl (h0 (fun z => st_nl hx (z.2 h9))))
      · exact yr_isList hj rfl (br_f (by decide) (h1 ⟨fun z => absurd z h6, fun _ => ⟨j, hj, rfl⟩⟩))
  unfold wpY_stage
  exact nm_e (br_c (fun a => h36 (Or.inl a)) (fun a => br_c (fun b => h36 (Or.inr (Or.inl b))) (fun b => br_c (fun d => h36 (Or.inr (Or.inr (Or.inl d)))) (fun d => br_c (fun e => h36 (Or.inr (Or.inr (Or.inr e)))) (fun e => h1 ⟨fun z => absurd z a, fun z => by rcases z with z | z | z <;> contradiction⟩)))))
variable {py : Int32}
theorem st_find (q : Nat) (hq : q ≤ 16) (np : Nat) (hn1 : np ≤ 16) (hcn : cn 0 = nI np) (hv : ∀ i, i < np → pe i = tk i ∧ ex_tok (tk i)) (hos : os 0 = 0) :
    ∃ (res : Int32) (os' : Nat → Int32), ((res = -1 ∧ (rl_hx q = true → ex_WF tk np) ∧ (rl_hx q = false → np = 0)) ∨ ¬ res < 0) ∧
      (∀ post : Int32 → Prop, post res → wpX_findWrongPlace post (lm, pn, wp, sr, sc, se, fl, sp, en, pt, sg, el, rs, sn, it, le, pe, op, kd, nu, co, cl, ap, rd, si, bg, ct, ls, hd, hk, hc, vl) (nI q) (nI np)) ∧
      (∀ (post : Int32 → SY → Prop) (c x3 : Int32), wY_stage_160 post (nI q) c x3 res lm sr sc wy py ya se fl vv vt ot ra br oc it le tk cn kd nu lf la pc yb yh yk ho ap rd si vs os' → wpY_hasExpression (fun r_28 => (((r_28 = 0 → ((((cn 0) ≤ 0 → (wY_stage_160 post (nI q) c x3 (-1) lm sr sc wy py ya se fl vv vt ot ra br oc it le tk cn kd nu lf la pc yb yh yk ho ap rd si vs os)) ∧ (¬ (cn 0) ≤ 0 → (wY_stage_160 post (nI q) c x3 0 lm sr sc wy py ya se fl vv vt ot ra br oc it le tk cn kd nu lf la pc yb yh yk ho ap rd si vs os))))) ∧ (¬ r_28 = 0 → ((((nI q) = 10 → (wY_stage_135 post (nI q) c x3 lm sr sc wy py ya se fl vv vt ot ra br oc it le tk cn kd nu lf la pc yb yh yk ho ap rd si vs os)) ∧ (¬ (nI q) = 10 → ((((nI q) = 12 → (wY_stage_135 post (nI q) c x3 lm sr sc wy py ya se fl vv vt ot ra br oc it le tk cn kd nu lf la pc yb yh yk ho ap rd si vs os)) ∧ (¬ (nI q) = 12 → (wY_stage_140 post (nI q) c x3 0 lm sr sc wy py ya se fl vv vt ot ra br oc it le tk cn kd nu lf la pc yb yh yk ho ap rd si vs os))))))))))) (nI q)) := by
  cases hx : rl_hx q with
  | false =>
    by_cases h0 : np = 0
    · subst h0
      refine ⟨-1, os, Or.inl ⟨rfl, fun z => absurd z (by simp), fun _ => rfl⟩, fun post h => ?_, fun post c x3 h => ?_⟩
      · unfold wpX_findWrongPlace
        refine xr_hx hq ?_
        rw [hx]
        exact br_t rfl (br_t (show nI 0 ≤ 0 from by decide) h)
      · refine yr_hx hq ?_
        rw [hx]
        exact br_t rfl (br_t (by rw [hcn]; decide) h)
    · refine ⟨0, os, Or.inr (by decide), fun post h => ?_, fun post c x3 h => ?_⟩
      · unfold wpX_findWrongPlace
        refine xr_hx hq ?_
        rw [hx]
        exact br_t rfl (br_f (nI_nle (by omega) (by omega)) h)
      · refine yr_hx hq ?_
        rw [hx]
        exact br_t rfl (br_f (by rw [hcn]; exact nI_nle (by omega) (by omega)) h)
  | true =>
    have hR : mk_R 0 os (ex_ct (ex_cs tk 0).2.1) := by
      intro d hd
      have : d = 0 := by
        have e : ex_ct (ex_cs tk 0).2.1 = 0 := rfl
        omega
      subst this
      rw [hos, b_0]
      decide
    obtain ⟨jn, hjn⟩ : ∃ jn : Int32, jn = if q = 10 ∨ q = 12 then 1 else 0 := ⟨_, rfl⟩
    obtain ⟨res, os', g1, g2, g3⟩ := fw_lock (lm := lm) (pn := pn) (wp := wp) (sr := sr) (sc := sc) (se := se) (fl := fl) (sp := sp) (en := en) (pt := pt) (sg := sg) (el := el) (rs := rs) (sn := sn) (it := it) (le := le) (pe := pe) (op := op) (kd := kd) (nu := nu) (co := co) (cl := cl) (ap := ap) (rd := rd) (si := si) (bg := bg) (ct := ct) (ls := ls) (hd := hd) (hk := hk) (hc := hc) (vl := vl) (wy := wy) (ya := ya) (vv := vv) (vt := vt) (ot := ot) (ra := ra) (br := br) (oc := oc) (tk := tk) (cn := cn) (lf := lf) (la := la) (pc := pc) (yb := yb) (yh := yh) (yk := yk) (ho := ho) (vs := vs) (py := py) np hn1 tk (fun i hi => (hv i hi).2) (fun i hi => (hv i hi).1) (fun _ _ => rfl) hcn jn np 0 (by omega) (fun j hj => absurd hj (by omega)) 0 os hR
    refine ⟨res, os', g1.imp (fun z => ⟨z.1, fun _ => z.2, fun w => absurd w (by simp)⟩) id, fun post h => ?_, fun post c x3 h => ?_⟩
    · have h34 : wX_findWrongPlace_34 post (nI np) jn lm pn wp sr sc se fl sp en pt sg el rs sn it le pe op kd nu co cl ap rd si bg ct ls hd hk hc vl := ⟨_, g2 post _ (Nat.lt_succ_self _) h⟩
      unfold wpX_findWrongPlace
      refine xr_hx hq ?_
      rw [hx]
      refine br_f (by decide) (br_c (fun e => ?_) (fun e => br_c (fun e2 => ?_) (fun e2 => ?_)))
      · have : q = 10 := (nI_eq (b := 10) (by omega) (by omega)).mp e
        rw [if_pos (Or.inl this)] at hjn; rw [hjn] at h34; exact h34
      · have : q = 12 := (nI_eq (b := 12) (by omega) (by omega)).mp e2
        rw [if_pos (Or.inr this)] at hjn; rw [hjn] at h34; exact h34
      · rw [if_neg (by rintro (rfl | rfl); exact e rfl; exact e2 rfl)] at hjn; rw [hjn] at h34; exact h34
    · have h140 : wY_stage_140 post (nI q) c x3 jn lm sr sc wy py ya se fl vv vt ot ra br oc it le tk cn kd nu lf la pc yb yh yk ho ap rd si vs os := ⟨_, g3 _ _ (Nat.lt_succ_self _) h⟩
      refine yr_hx hq ?_
      rw [hx]
      refine br_f (by decide) (br_c (fun e => ?_) (fun e => br_c (fun e2 => ?_) (fun e2 => ?_)))
      · have : q = 10 := (nI_eq (b := 10) (by omega) (by omega)).mp e
        rw [if_pos (Or.inl this)] at hjn; rw [hjn] at h140; exact h140
      · have : q = 12 := (nI_eq (b := 12) (by omega) (by omega)).mp e2
        rw [if_pos (Or.inr this)] at hjn; rw [hjn] at h140; exact h140
      · rw [if_neg (by rintro (rfl | rfl); exact e rfl; exact e2 rfl)] at hjn; rw [hjn] at h140; exact h140
theorem st_copy (S : Nat) (hS : S < 8) (np : Nat) (hn1 : np ≤ 16) (hcn : cn 0 = nI np) (k c : Int32) (tk : Nat → Int32) : ∀ (r i : Nat), i + r = np → ∀ tk1 : Nat → Int32, (∀ j, j < i → tk1 (16 * (S + 1) + j) = tk j) → (∀ j, (j < 16 * (S + 1) ∨ 16 * (S + 1) + 16 ≤ j) → tk1 j = tk j) →
    ∃ tk2 : Nat → Int32, (∀ j, j < np → tk2 (16 * (S + 1) + j) = tk j) ∧ (∀ j, (j < 16 * (S + 1) ∨ 16 * (S + 1) + 16 ≤ j) → tk2 j = tk j) ∧
      ∀ (post : Int32 → SY → Prop) (n : Nat), r < n → post (nI (S + 1)) (lm, sr, nI (S + 1), wy, sp, ya, se, fl, vv, vt, ot, ra, br, oc, it, le, tk2, upd (upd cn (S + 1) (nI np)) 0 0, upd kd S k, upd nu S c, lf, la, pc, yb, yh, yk, ho, ap, rd, si, vs, os) → wY_stage_180 post k c (nI (S + 1)) lm sr (nI S) wy sp ya se fl vv vt ot ra br oc n (nI i) it le tk1 cn kd nu lf la pc yb yh yk ho ap rd si vs os := by
  intro r
  induction r with
  | zero =>
    intro i hi tk1 h1 h2
    have : i = np := by omega
    subst this
    refine ⟨tk1, h1, h2, fun post n hn h => ?_⟩
    obtain ⟨m, rfl⟩ : ∃ m, n = m + 1 := ⟨n - 1, by omega⟩
    have hS1 : vp_in (nI S) 8 := vp_in_nI hS (by omega)
    refine br_t ?_ ⟨vp_in_nI (by omega) (by omega), nm_r ?_ ⟨hS1, nm_r ?_ ⟨hS1, nm_r ?_ (nm_r (nI_1 _) (nm_e h))⟩⟩⟩
    · rw [hcn]; exact Int32.le_refl _
    · rw [hcn, nI_clamp (by omega)]
    · rw [nI_clamp (by omega)]
    · rw [nI_clamp (by omega)]
  | succ r IH =>
    intro i hi tk1 h1 h2
    have hix : 16 * nI (S + 1) + nI i = nI (16 * (S + 1) + i) := by
      rw [show (16 : Int32) = nI 16 from rfl, pk_mul, nI_add]
    obtain ⟨tk2, g1, g2, g3⟩ := IH (i + 1) (by omega) (upd tk1 (16 * (S + 1) + i) (tk1 i)) (by
      intro j hj
      by_cases e : j = i
      · subst e; rw [pk_us]; exact h2 j (Or.inl (by omega))
      · rw [pk_un (by omega)]; exact h1 j (by omega)) (by
      intro j hj
      rw [pk_un (by omega)]; exact h2 j hj)
    refine ⟨tk2, g1, g2, fun post n hn h => ?_⟩
    obtain ⟨m, rfl⟩ : ∃ m, n = m + 1 := ⟨n - 1, by omega⟩
    refine br_f ?_ ⟨vp_in_nI (by omega) (by omega), ?_, nm_r ?_ (nm_r (nI_1 _) (g3 post m (by omega) h))⟩
    · rw [hcn]; exact nI_ge (by omega) (by omega)
    · rw [hix]; exact vp_in_nI (by omega) (by omega)
    · rw [hix, nI_clamp (by omega), nI_clamp (by omega)]
end
