theorem t64_le (a b : Int32) : a.toInt64 ≤ b.toInt64 ↔ a ≤ b := by
  rw [Int64.le_iff_toInt_le, Int32.toInt_toInt64, Int32.toInt_toInt64, Int32.le_iff_toInt_le]
theorem t64_ne (a : Int32) : ¬ a.toInt64 = 9000000000000000000 := by
  intro h
  have := congrArg Int64.toInt h
  rw [Int32.toInt_toInt64] at this
  have h1 := Int32.toInt_lt a
  have e : (9000000000000000000 : Int64).toInt = 9000000000000000000 := by decide
  omega
def ru_bs (T : Int32) (i : Nat) (best w : Int32) : Int32 := if lN i = 0 ∨ (T = 5 ∧ w < best) ∨ (T = 6 ∧ best < w) ∨ T = 2 ∨ T = 4 then w else best
def ru_hit (T c w : Int32) : Int32 := if T = 3 ∧ ¬ w ≤ c then 1 else 0
def ru_yr (T : Int32) (yr : Int64) (w : Int32) : Int64 := if T = 7 then yr * 31 + w.toInt64 else yr + w.toInt64
def ra_R (tt : Nat) (c : Int32) (i : Nat) (xa yr : Int64) (best : Int32) : Prop :=
  match tt with
  | 0 => xa = lN i
  | 1 => xa = yr
  | 2 => xa = if i ≠ 0 ∧ lN (i - 1) = c.toInt64 then best.toInt64 else 9000000000000000000
  | 3 => xa = 0
  | 4 => xa = if i = 0 then 9000000000000000000 else best.toInt64
  | 5 => xa = if i = 0 then 9000000000000000000 else best.toInt64
  | 6 => xa = if i = 0 then 9000000000000000000 else best.toInt64
  | 7 => xa = yr
  | 8 => xa = lN i
  | _ => True
theorem ru_9 {tt : Nat} (h : tt ≤ 8) : tt = 0 ∨ tt = 1 ∨ tt = 2 ∨ tt = 3 ∨ tt = 4 ∨ tt = 5 ∨ tt = 6 ∨ tt = 7 ∨ tt = 8 := by omega
theorem lN_0 {i : Nat} (hi : i < 90000) : lN i = 0 ↔ i = 0 := by
  rw [show (0 : Int64) = lN 0 from rfl]; exact lN_eq (by omega) (by omega)
section
variable {lm pn wp sr sc se fl sp pt sg el rs sn wy ya vv vt ot ra br : Int32} {en oc : Int64} {it le pe op kd nu co cl ap rd si bg ct ls hd hk hc vl tk cn lf la pc yb yh yk ho vs os : Nat → Int32}
variable {i : Nat} {c w best T x9 x10 : Int32} {B yr z0 xa : Int64}
theorem ry_255 {post : Int64 → SY → Prop} {J : (Int64 → Int64 → Int32 → Int32 → Int32 → Int32 → Int32 → Int32 → Int32 → Int32 → Int32 → Int32 → Int32 → Int32 → Int32 → Int32 → Int32 → Int32 → Int64 → (Nat → Int32) → (Nat → Int32) → (Nat → Int32) → (Nat → Int32) → (Nat → Int32) → (Nat → Int32) → (Nat → Int32) → (Nat → Int32) → (Nat → Int32) → (Nat → Int32) → (Nat → Int32) → (Nat → Int32) → (Nat → Int32) → (Nat → Int32) → (Nat → Int32) → (Nat → Int32) → (Nat → Int32) → (Nat → Int32) → Prop)} (h : J yr (lN (i + 1)) x9 x10 w lm sr sc wy sp ya se fl w vt ot ra br oc it le tk cn kd nu lf la pc yb yh yk ho ap rd si vs os) : wY_run_255 post J T c B yr (lN i) x9 x10 best lm sr sc wy sp ya se fl w vt ot ra br oc it le tk cn kd nu lf la pc yb yh yk ho ap rd si vs os :=
  br_f (by decide) (nm_r (lN_1 i) h)
theorem ry_207 {post : Int64 → SY → Prop} {J : (Int64 → Int64 → Int32 → Int32 → Int32 → Int32 → Int32 → Int32 → Int32 → Int32 → Int32 → Int32 → Int32 → Int32 → Int32 → Int32 → Int32 → Int32 → Int64 → (Nat → Int32) → (Nat → Int32) → (Nat → Int32) → (Nat → Int32) → (Nat → Int32) → (Nat → Int32) → (Nat → Int32) → (Nat → Int32) → (Nat → Int32) → (Nat → Int32) → (Nat → Int32) → (Nat → Int32) → (Nat → Int32) → (Nat → Int32) → (Nat → Int32) → (Nat → Int32) → (Nat → Int32) → (Nat → Int32) → Prop)} (h : J yr (lN (i + 1)) x9 x10 (ru_bs T i best w) lm sr sc wy sp ya se fl w vt ot ra br oc it le tk cn kd nu lf la pc yb yh yk ho ap rd si vs os) : wY_run_207 post J T c B (lN i) x9 x10 best yr lm sr sc wy sp ya se fl w vt ot ra br oc it le tk cn kd nu lf la pc yb yh yk ho ap rd si vs os := by
  unfold ru_bs at h
  have h245 : ¬ lN i = 0 → ¬ (T = 5 ∧ w < best) → ¬ (T = 6 ∧ best < w) → wY_run_245 post J T c B yr (lN i) x9 x10 best lm sr sc wy sp ya se fl w vt ot ra br oc it le tk cn kd nu lf la pc yb yh yk ho ap rd si vs os := by
    intro n0 n5 n6
    refine br_c (fun e2 => ?_) (fun n2 => br_c (fun e4 => ?_) (fun n4 => ?_))
    · rw [if_pos (Or.inr (Or.inr (Or.inr (Or.inl e2))))] at h; exact ry_255 h
    · rw [if_pos (Or.inr (Or.inr (Or.inr (Or.inr e4))))] at h; exact ry_255 h
    · rw [if_neg (by rintro (z | z | z | z | z); exact n0 z; exact n5 z; exact n6 z; exact n2 z; exact n4 z)] at h
      exact br_t rfl (nm_r (lN_1 i) h)
  have h230 : ¬ lN i = 0 → ¬ (T = 5 ∧ w < best) → wY_run_230 post J T c B yr (lN i) x9 x10 best lm sr sc wy sp ya se fl w vt ot ra br oc it le tk cn kd nu lf la pc yb yh yk ho ap rd si vs os := by
    intro n0 n5
    refine br_c (fun e6 => br_c (fun hlt => ?_) (fun hn => h245 n0 n5 (fun z => hn z.2))) (fun n6 => h245 n0 n5 (fun z => n6 z.1))
    rw [if_pos (Or.inr (Or.inr (Or.inl ⟨e6, hlt⟩)))] at h; exact ry_255 h
  refine br_c (fun e0 => ?_) (fun n0 => br_c (fun e5 => br_c (fun hlt => ?_) (fun hn => h230 n0 (fun z => hn z.2))) (fun n5 => h230 n0 (fun z => n5 z.1)))
  · rw [if_pos (Or.inl e0)] at h; exact ry_255 h
  · rw [if_pos (Or.inr (Or.inl ⟨e5, hlt⟩))] at h; exact ry_255 h
theorem ry_176 {post : Int64 → SY → Prop} {J : (Int64 → Int64 → Int32 → Int32 → Int32 → Int32 → Int32 → Int32 → Int32 → Int32 → Int32 → Int32 → Int32 → Int32 → Int32 → Int32 → Int32 → Int32 → Int64 → (Nat → Int32) → (Nat → Int32) → (Nat → Int32) → (Nat → Int32) → (Nat → Int32) → (Nat → Int32) → (Nat → Int32) → (Nat → Int32) → (Nat → Int32) → (Nat → Int32) → (Nat → Int32) → (Nat → Int32) → (Nat → Int32) → (Nat → Int32) → (Nat → Int32) → (Nat → Int32) → (Nat → Int32) → (Nat → Int32) → Prop)} (h : J (ru_yr T yr w) (lN (i + 1)) x9 x10 (ru_bs T i best w) lm sr sc wy sp ya se fl w vt ot ra br oc it le tk cn kd nu lf la pc yb yh yk ho ap rd si vs os) : wY_run_176 post J T c B yr (lN i) x9 best x10 lm sr sc wy sp ya se fl w vt ot ra br oc it le tk cn kd nu lf la pc yb yh yk ho ap rd si vs os := by
  unfold ru_yr at h
  refine br_c (fun e7 => ?_) (fun n7 => ?_)
  · rw [if_pos e7] at h; exact ry_207 h
  · rw [if_neg n7] at h; exact ry_207 h
theorem ry_158 {post : Int64 → SY → Prop} {J : (Int64 → Int64 → Int32 → Int32 → Int32 → Int32 → Int32 → Int32 → Int32 → Int32 → Int32 → Int32 → Int32 → Int32 → Int32 → Int32 → Int32 → Int32 → Int64 → (Nat → Int32) → (Nat → Int32) → (Nat → Int32) → (Nat → Int32) → (Nat → Int32) → (Nat → Int32) → (Nat → Int32) → (Nat → Int32) → (Nat → Int32) → (Nat → Int32) → (Nat → Int32) → (Nat → Int32) → (Nat → Int32) → (Nat → Int32) → (Nat → Int32) → (Nat → Int32) → (Nat → Int32) → (Nat → Int32) → Prop)} (h : J (ru_yr T yr w) (lN (i + 1)) x9 (ru_hit T c w) (ru_bs T i best w) lm sr sc wy sp ya se fl w vt ot ra br oc it le tk cn kd nu lf la pc yb yh yk ho ap rd si vs os) : wY_run_158 post J T c B yr (lN i) x9 best lm sr sc wy sp ya se fl w vt ot ra br oc it le tk cn kd nu lf la pc yb yh yk ho ap rd si vs os := by
  unfold ru_hit at h
  refine br_c (fun e3 => br_c (fun hle => ?_) (fun hn => ?_)) (fun n3 => ?_)
  · rw [if_neg (fun z => z.2 hle)] at h; exact ry_176 h
  · rw [if_pos ⟨e3, hn⟩] at h; exact ry_176 h
  · rw [if_neg (fun z => n3 z.1)] at h; exact ry_176 h
theorem ru_up (tt : Nat) (htt : tt ≤ 8) (hi : i < 90000) (hR : ra_R tt c i xa yr best) (hse : tt = 8 → se = nI i ∧ i < 16) :
    ∃ (xa' : Int64) (se' : Int32) (si' : Nat → Int32), (ru_hit (nI tt) c w = 0 → ra_R tt c (i + 1) xa' (ru_yr (nI tt) yr w) (ru_bs (nI tt) i best w)) ∧ (¬ ru_hit (nI tt) c w = 0 → tt = 3 ∧ xa' = 1) ∧ (tt = 3 → ru_hit (nI tt) c w = 0 → ¬ xa' = 1) ∧ (tt = 8 → se' = nI (i + 1)) ∧ (tt ≠ 8 → se' = se) ∧
      (∀ post : Int64 → SX → Prop, post xa' (lm, pn, wp, sr, sc, se', fl, sp, en, pt, sg, w, rs, sn, it, le, pe, op, kd, nu, co, cl, ap, rd, si', bg, ct, ls, hd, hk, hc, vl) → wpX_answerWith post (lm, pn, wp, sr, sc, se, fl, sp, en, pt, sg, w, rs, sn, it, le, pe, op, kd, nu, co, cl, ap, rd, si, bg, ct, ls, hd, hk, hc, vl) (nI tt) c xa (lN i)) ∧
      (∀ (post : Int64 → SY → Prop) (J : (Int64 → Int64 → Int32 → Int32 → Int32 → Int32 → Int32 → Int32 → Int32 → Int32 → Int32 → Int32 → Int32 → Int32 → Int32 → Int32 → Int32 → Int32 → Int64 → (Nat → Int32) → (Nat → Int32) → (Nat → Int32) → (Nat → Int32) → (Nat → Int32) → (Nat → Int32) → (Nat → Int32) → (Nat → Int32) → (Nat → Int32) → (Nat → Int32) → (Nat → Int32) → (Nat → Int32) → (Nat → Int32) → (Nat → Int32) → (Nat → Int32) → (Nat → Int32) → (Nat → Int32) → (Nat → Int32) → Prop)), J (ru_yr (nI tt) yr w) (lN (i + 1)) 0 (ru_hit (nI tt) c w) (ru_bs (nI tt) i best w) lm sr sc wy sp ya se' fl w vt ot ra br oc it le tk cn kd nu lf la pc yb yh yk ho ap rd si' vs os → wY_run_125 post J (nI tt) c B yr (lN i) 0 best 0 lm sr sc wy sp ya se fl w vt ot ra br oc it le tk cn kd nu lf la pc yb yh yk ho ap rd si vs os) := by
  have hNo : ∀ tt : Nat, tt ≠ 3 → tt ≤ 8 → ru_hit (nI tt) c w = 0 := fun tt h3 h8 => if_neg (fun z => h3 ((nI_eq (b := 3) (by omega) (by omega)).mp z.1))
  have hY8 : ∀ tt : Nat, tt ≠ 8 → tt ≤ 8 → ∀ (post : Int64 → SY → Prop) (J : (Int64 → Int64 → Int32 → Int32 → Int32 → Int32 → Int32 → Int32 → Int32 → Int32 → Int32 → Int32 → Int32 → Int32 → Int32 → Int32 → Int32 → Int32 → Int64 → (Nat → Int32) → (Nat → Int32) → (Nat → Int32) → (Nat → Int32) → (Nat → Int32) → (Nat → Int32) → (Nat → Int32) → (Nat → Int32) → (Nat → Int32) → (Nat → Int32) → (Nat → Int32) → (Nat → Int32) → (Nat → Int32) → (Nat → Int32) → (Nat → Int32) → (Nat → Int32) → (Nat → Int32) → (Nat → Int32) → Prop)), J (ru_yr (nI tt) yr w) (lN (i + 1)) 0 (ru_hit (nI tt) c w) (ru_bs (nI tt) i best w) lm sr sc wy sp ya se fl w vt ot ra br oc it le tk cn kd nu lf la pc yb yh yk ho ap rd si vs os → wY_run_125 post J (nI tt) c B yr (lN i) 0 best 0 lm sr sc wy sp ya se fl w vt ot ra br oc it le tk cn kd nu lf la pc yb yh yk ho ap rd si vs os :=
    fun tt h8 h9 post J h => br_t rfl (br_f (fun z => h8 ((nI_eq (b := 8) (by omega) (by omega)).mp z)) (ry_158 h))
  have hi0 := lN_0 hi
  rcases ru_9 htt with rfl | rfl | rfl | rfl | rfl | rfl | rfl | rfl | rfl
  · -- COUNT
    refine ⟨xa + 1, se, si, fun _ => ?_, fun z => absurd (hNo 0 (by omega) (by omega)) z, fun z => absurd z (by omega), fun z => absurd z (by omega), fun _ => rfl, fun post hp => ?_, hY8 0 (by omega) (by omega)⟩
    · have hR : xa = lN i := hR
      show xa + 1 = lN (i + 1)
      rw [hR, lN_1]
    · exact br_f (by decide) (br_f (by decide) (br_t rfl hp))
  · -- SUM
    refine ⟨xa + w.toInt64, se, si, fun _ => ?_, fun z => absurd (hNo 1 (by omega) (by omega)) z, fun z => absurd z (by omega), fun z => absurd z (by omega), fun _ => rfl, fun post hp => ?_, hY8 1 (by omega) (by omega)⟩
    · have hR : xa = yr := hR
      show xa + w.toInt64 = ru_yr (nI 1) yr w
      rw [hR, ru_yr, if_neg (by decide)]
    · exact br_f (by decide) (br_f (by decide) (br_f (by decide) (br_t rfl hp)))
  · -- AT
    have eb : ru_bs (nI 2) i best w = w := if_pos (Or.inr (Or.inr (Or.inr (Or.inl rfl))))
    by_cases hc : lN i = c.toInt64
    · refine ⟨w.toInt64, se, si, fun _ => ?_, fun z => absurd (hNo 2 (by omega) (by omega)) z, fun z => absurd z (by omega), fun z => absurd z (by omega), fun _ => rfl, fun post hp => ?_, hY8 2 (by omega) (by omega)⟩
      · show w.toInt64 = if i + 1 ≠ 0 ∧ lN (i + 1 - 1) = c.toInt64 then (ru_bs (nI 2) i best w).toInt64 else 9000000000000000000
        rw [if_pos ⟨by omega, by rw [Nat.add_sub_cancel]; exact hc⟩, eb]
      · exact br_f (by decide) (br_f (by decide) (br_f (by decide) (br_f (by decide) (br_t rfl (br_t hc hp)))))
    · refine ⟨9000000000000000000, se, si, fun _ => ?_, fun z => absurd (hNo 2 (by omega) (by omega)) z, fun z => absurd z (by omega), fun z => absurd z (by omega), fun _ => rfl, fun post hp => ?_, hY8 2 (by omega) (by omega)⟩
      · show 9000000000000000000 = if i + 1 ≠ 0 ∧ lN (i + 1 - 1) = c.toInt64 then (ru_bs (nI 2) i best w).toInt64 else 9000000000000000000
        rw [if_neg (by rintro ⟨_, z⟩; rw [Nat.add_sub_cancel] at z; exact hc z)]
      · exact br_f (by decide) (br_f (by decide) (br_f (by decide) (br_f (by decide) (br_t rfl (br_f hc hp)))))
  · -- ANY
    by_cases hc : w ≤ c
    · have eh : ru_hit (nI 3) c w = 0 := if_neg (fun z => z.2 hc)
      refine ⟨0, se, si, fun _ => rfl, fun z => absurd eh z, fun _ _ => by decide, fun z => absurd z (by omega), fun _ => rfl, fun post hp => ?_, hY8 3 (by omega) (by omega)⟩
      exact br_f (by decide) (br_f (by decide) (br_f (by decide) (br_f (by decide) (br_f (by decide) (br_t rfl (br_t hc hp))))))
    · have eh : ru_hit (nI 3) c w = 1 := if_pos ⟨rfl, hc⟩
      refine ⟨1, se, si, fun z => absurd (eh.symm.trans z) (by decide), fun _ => ⟨rfl, rfl⟩, fun _ z => absurd (eh.symm.trans z) (by decide), fun z => absurd z (by omega), fun _ => rfl, fun post hp => ?_, hY8 3 (by omega) (by omega)⟩
      exact br_f (by decide) (br_f (by decide) (br_f (by decide) (br_f (by decide) (br_f (by decide) (br_t rfl (br_f hc hp))))))
  · -- LAST
    have eb : ru_bs (nI 4) i best w = w := if_pos (Or.inr (Or.inr (Or.inr (Or.inr rfl))))
    refine ⟨w.toInt64, se, si, fun _ => ?_, fun z => absurd (hNo 4 (by omega) (by omega)) z, fun z => absurd z (by omega), fun z => absurd z (by omega), fun _ => rfl, fun post hp => ?_, hY8 4 (by omega) (by omega)⟩
    · show w.toInt64 = if i + 1 = 0 then 9000000000000000000 else (ru_bs (nI 4) i best w).toInt64
      rw [if_neg (by omega), eb]
    · exact br_f (by decide) (br_f (by decide) (br_f (by decide) (br_f (by decide) (br_f (by decide) (br_f (by decide) (br_t rfl hp))))))
  · -- LEAST
    have hR : xa = if i = 0 then 9000000000000000000 else best.toInt64 := hR
    have hfin : ∀ v : Int32, v = ru_bs (nI 5) i best w → ra_R 5 c (i + 1) v.toInt64 (ru_yr (nI 5) yr w) (ru_bs (nI 5) i best w) := by
      intro v hv
      show v.toInt64 = if i + 1 = 0 then 9000000000000000000 else (ru_bs (nI 5) i best w).toInt64
      rw [if_neg (by omega), hv]
    by_cases e0 : i = 0
    · rw [if_pos e0] at hR
      refine ⟨w.toInt64, se, si, fun _ => hfin w (if_pos (Or.inl (hi0.mpr e0))).symm, fun z => absurd (hNo 5 (by omega) (by omega)) z, fun z => absurd z (by omega), fun z => absurd z (by omega), fun _ => rfl, fun post hp => ?_, hY8 5 (by omega) (by omega)⟩
      exact br_f (by decide) (br_f (by decide) (br_f (by decide) (br_f (by decide) (br_f (by decide) (br_f (by decide) (br_f (by decide) (br_t rfl (br_t hR hp))))))))
    · rw [if_neg e0] at hR
      have hne : ¬ xa = 9000000000000000000 := by rw [hR]; exact t64_ne best
      by_cases hle : best ≤ w
      · refine ⟨best.toInt64, se, si, fun _ => hfin best ?_, fun z => absurd (hNo 5 (by omega) (by omega)) z, fun z => absurd z (by omega), fun z => absurd z (by omega), fun _ => rfl, fun post hp => ?_, hY8 5 (by omega) (by omega)⟩
        · refine (if_neg ?_).symm
          rintro (z | ⟨_, z⟩ | ⟨z, _⟩ | z | z)
          · exact e0 (hi0.mp z)
          · exact Int32.not_lt.mpr hle z
          · exact absurd z (by decide)
          · exact absurd z (by decide)
          · exact absurd z (by decide)
        · exact br_f (by decide) (br_f (by decide) (br_f (by decide) (br_f (by decide) (br_f (by decide) (br_f (by decide) (br_f (by decide) (br_t rfl (br_f hne (br_t (by rw [hR, t64_le]; exact hle) (by rw [hR]; exact hp))))))))))
      · refine ⟨w.toInt64, se, si, fun _ => hfin w (if_pos (Or.inr (Or.inl ⟨rfl, Int32.not_le.mp hle⟩))).symm, fun z => absurd (hNo 5 (by omega) (by omega)) z, fun z => absurd z (by omega), fun z => absurd z (by omega), fun _ => rfl, fun post hp => ?_, hY8 5 (by omega) (by omega)⟩
        exact br_f (by decide) (br_f (by decide) (br_f (by decide) (br_f (by decide) (br_f (by decide) (br_f (by decide) (br_f (by decide) (br_t rfl (br_f hne (br_f (by rw [hR, t64_le]; exact hle) hp)))))))))
  · -- GREATEST
    have hR : xa = if i = 0 then 9000000000000000000 else best.toInt64 := hR
    have hfin : ∀ v : Int32, v = ru_bs (nI 6) i best w → ra_R 6 c (i + 1) v.toInt64 (ru_yr (nI 6) yr w) (ru_bs (nI 6) i best w) := by
      intro v hv
      show v.toInt64 = if i + 1 = 0 then 9000000000000000000 else (ru_bs (nI 6) i best w).toInt64
      rw [if_neg (by omega), hv]
    by_cases e0 : i = 0
    · rw [if_pos e0] at hR
      refine ⟨w.toInt64, se, si, fun _ => hfin w (if_pos (Or.inl (hi0.mpr e0))).symm, fun z => absurd (hNo 6 (by omega) (by omega)) z, fun z => absurd z (by omega), fun z => absurd z (by omega), fun _ => rfl, fun post hp => ?_, hY8 6 (by omega) (by omega)⟩
      exact br_f (by decide) (br_f (by decide) (br_f (by decide) (br_f (by decide) (br_f (by decide) (br_f (by decide) (br_f (by decide) (br_f (by decide) (br_t rfl (br_t hR hp)))))))))
    · rw [if_neg e0] at hR
      have hne : ¬ xa = 9000000000000000000 := by rw [hR]; exact t64_ne best
      by_cases hle : w ≤ best
      · refine ⟨best.toInt64, se, si, fun _ => hfin best ?_, fun z => absurd (hNo 6 (by omega) (by omega)) z, fun z => absurd z (by omega), fun z => absurd z (by omega), fun _ => rfl, fun post hp => ?_, hY8 6 (by omega) (by omega)⟩
        · refine (if_neg ?_).symm
          rintro (z | ⟨z, _⟩ | ⟨_, z⟩ | z | z)
          · exact e0 (hi0.mp z)
          · exact absurd z (by decide)
          · exact Int32.not_lt.mpr hle z
          · exact absurd z (by decide)
          · exact absurd z (by decide)
        · exact br_f (by decide) (br_f (by decide) (br_f (by decide) (br_f (by decide) (br_f (by decide) (br_f (by decide) (br_f (by decide) (br_f (by decide) (br_t rfl (br_f hne (br_t (by rw [hR, t64_le]; exact hle) (by rw [hR]; exact hp)))))))))))
      · refine ⟨w.toInt64, se, si, fun _ => hfin w (if_pos (Or.inr (Or.inr (Or.inl ⟨rfl, Int32.not_le.mp hle⟩)))).symm, fun z => absurd (hNo 6 (by omega) (by omega)) z, fun z => absurd z (by omega), fun z => absurd z (by omega), fun _ => rfl, fun post hp => ?_, hY8 6 (by omega) (by omega)⟩
        exact br_f (by decide) (br_f (by decide) (br_f (by decide) (br_f (by decide) (br_f (by decide) (br_f (by decide) (br_f (by decide) (br_f (by decide) (br_t rfl (br_f hne (br_f (by rw [hR, t64_le]; exact hle) hp))))))))))
  · -- DIGEST
    refine ⟨xa * 31 + w.toInt64, se, si, fun _ => ?_, fun z => absurd (hNo 7 (by omega) (by omega)) z, fun z => absurd z (by omega), fun z => absurd z (by omega), fun _ => rfl, fun post hp => ?_, hY8 7 (by omega) (by omega)⟩
    · have hR : xa = yr := hR
      show xa * 31 + w.toInt64 = ru_yr (nI 7) yr w
      rw [hR, ru_yr, if_pos (by decide)]
    · exact br_f (by decide) (br_f (by decide) (br_f (by decide) (br_f (by decide) (br_f (by decide) (br_f (by decide) (br_f (by decide) (br_f (by decide) (br_f (by decide) (br_t rfl hp)))))))))
  · -- LIST
    obtain ⟨hs1, hs2⟩ := hse rfl
    subst hs1
    have hin : vp_in (nI i) 16 := vp_in_nI hs2 (by omega)
    refine ⟨lN (i + 1), nI (i + 1), upd si i w, fun _ => rfl, fun z => absurd (hNo 8 (by omega) (by omega)) z, fun z => absurd z (by omega), fun _ => rfl, fun z => absurd rfl z, fun post hp => ?_, fun post J hJ => ?_⟩
    · refine br_f (by decide) (br_f (by decide) (br_f (by decide) (br_f (by decide) (br_f (by decide) (br_f (by decide) (br_f (by decide) (br_f (by decide) (br_f (by decide) (br_f (by decide) (br_t rfl (br_f (nI_ge (b := 16) hs2 (by decide)) ⟨hin, nm_r (e' := upd si i w) (by rw [nI_clamp (by omega)]) (nm_r (nI_1 i) ?_)⟩)))))))))))
      rw [nI_l (by omega)]; exact hp
    · exact br_t rfl (br_t rfl (nm_r (nI_1 i) ⟨hin, nm_r (e' := upd si i w) (by rw [nI_clamp (by omega)]) (ry_158 hJ)⟩))
end
