/-! THE CLASS CALLS A PAGE -/
section CALL3
variable {b : Nat} {C C' C'' : Cd} {E : Env} {VA : Nat → Nat} {up : Int} {s s' s'' : ASt} {r ra f i e : Nat} {acc : List Int}
/-- the frame of a CALL -/
def nFr (E : Env) (s : ASt) (f at_ : Nat) (t : Int) : AFr := ((eSn E t.toNat).toNat, t.toNat, (aFr s f).2.2.1 + 1, (f : Int), at_, agF (fg E s f) (prs_ (fg E s f) (fn E s f) 30 (at_ + 1)) 0 (fun _ => -1))
theorem agF_ext {g : Nat → Int} {l : List Nat} : ∀ {c : Nat} {a a' : Nat → Int} {x : Nat}, a x = a' x → agF g l c a x = agF g l c a' x := by
  induction l with
  | nil => intro c a a' x h; exact h
  | cons p l ih =>
    intro c a a' x h
    unfold agF
    refine ih ?_
    by_cases e : x = (if g p / 1000 = 5 then c + 1 else (g p % 1000).toNat)
    · rw [if_pos e, if_pos e]
    · rw [if_neg e, if_neg e]; exact h
/-- a frame and its first run, from the way on -/
theorem frame_new {D3 : Cd} {s3 : ASt} (h : Pre b D3 E VA up s3 r f ra i e acc) (hEn : EnP E) (hf : f < aNf s3) {t at_ : Nat} (ht : t < 24) (hne : eSn E t ≠ -1) (hat : at_ < fn E s3 f) (hd6 : (aFr s3 f).2.2.1 < 6) (hg : aNf s3 < 41) (hgc : aNf s3 ≤ aCa s3) (hr : r < 511) :
   ∃ C4 C5, fX1_openFrame (b + 1) (t : Int) (some (VA (eSn E t).toNat + 1)) (some (b + 169 + 4 * f)) (some ra) D3 = some (some (b + 169 + 4 * aNf s3), C4) ∧ Lay b C4 ∧ cR C4 504 (b + 169 + 4 * f) = some (VA (aFr s3 f).1 + 1) ∧ fX2_takeArguments (b + 169 + 4 * aNf s3) (some (VA (aFr s3 f).1 + 1)) (at_ : Int) C4 = some ((), C5) ∧
     Sub b D3 C5 E VA up s3 (uFr s3 (nFr E s3 f at_ (t : Int))) r f ra i e acc (aNf s3) ra 0 (eTl E (eSn E t).toNat) acc := by
  have hh := h
  obtain ⟨h1, h2, h3, h4, ⟨hr0, hf41, h900, h901, h902⟩, h6⟩ := h
  have hL := h1.1
  have W := hL.W
  have hz := hL.sz
  have hI := h1.2.2.2.2.2.2.1
  obtain ⟨n1, n2, n3⟩ := hEn.1 t ht hne
  have hStl := (h1.2.2.2.2.2.2.2.2.now W).1 t ht hne
  have hFf := (h1.2.2.1 f hf).1
  obtain ⟨C4, e4, f4, y1, y2, v1, v2, ⟨v3, v4, v5, v6⟩, v7, v8, v9, v10, v11, v12⟩ := X1_openFrame_ hL (g := aNf s3) (R := r + 1) (n := eTl E (eSn E t).toNat) (t := VA (eSn E t).toNat + 1) (ti := (t : Int)) (cl := some (b + 169 + 4 * f)) (d := (((aFr s3 f).2.2.1 + 1 : Nat) : Int)) (row := some ra) hg hI.1 hI.2.2.1 (by omega) hStl.1.isO_ hStl.1.sz (Or.inr ⟨f, hf41, by omega, rfl, by rw [hFf.2.2.2.1]; omega⟩)
  have hL4 := hL.keep (f4.mono (fun q k a _ z => by
    unfold sOf at z
    rcases z with z | z | z
    · exact z.mu
    · exact z.mu
    · exact Or.inl z.1))
  obtain ⟨tf, tf1, tf2, tf3⟩ := (h1.2.2.2.1 f hf).1
  have nf0 := (h1.2.2.2.1 f hf).2.1.1
  have a504 : cR C4 504 (b + 169 + 4 * f) = some (VA (aFr s3 f).1 + 1) := (f4.fR (W _ (hL.fo hf41).1) (by unfold sOf sBeg sRun; omega)).trans hFf.1
  have ap : ∀ {x : Nat}, sX b (DyC b D3) 2 0 x → VA (aFr s3 f).1 + 1 + 1 ≠ x ∧ VA (aFr s3 f).1 + 1 + 2 ≠ x := fun hx => by
    have q := h1.2.2.2.2.2.2.2.2.apart W tf1 tf2 (by rw [tf3]; exact nf0.1) hx
    rw [tf3] at q
    exact q
  have apn := h1.2.2.2.2.2.2.2.2.apart W ht hne (by have := n2.1.1; omega) (sX_arg (D := DyC b D3) hg)
  have apf := ap (sX_arg (D := DyC b D3) hg)
  have apf3 := ap (x := b + 169 + 4 * aNf s3 + 3) (Or.inr (Or.inr (Or.inl ⟨rfl, Or.inr (Or.inr (Or.inr (Or.inr ⟨aNf s3, hg, Or.inr rfl⟩)))⟩)))
  have hT4 : Stl C4 (VA (aFr s3 f).1 + 1) (fg E s3 f) (fn E s3 f) := (h1.stl hf).fp W f4 (by unfold sOf sBeg sRun; omega) (by unfold sOf sBeg sRun; omega) (by unfold sOf sBeg sRun; omega) (by unfold sOf sBeg sRun; omega) (by unfold sOf sBeg sRun; omega)
  obtain ⟨C5, e5, f5, y3, y4, w1⟩ := X2_takeArguments_ hL4 hg hT4 nf0.2 (by omega) (by omega) hat
  have f45 : Fp (sOf b (aNf s3) (r + 1)) D3 C5 := f4.tr2 f5 (fun q k a _ z => Or.inl (Or.inr (Or.inr ⟨z.1, Or.inl z.2⟩)))
  have z4 : ∀ {x : Nat}, x < csz D3 → x < csz C4 := fun hx => Nat.lt_of_lt_of_le hx f4.1
  have zF := W _ (hL.fo hg).1
  have zr := W _ (hL.uo (show r + 1 < 512 by omega)).1
  have ze : b + 1 < csz D3 := by omega
  have hFm : (nFr E s3 f at_ (t : Int)) = ((eSn E t).toNat, t, (aFr s3 f).2.2.1 + 1, (f : Int), at_, agF (fg E s3 f) (prs_ (fg E s3 f) (fn E s3 f) 30 (at_ + 1)) 0 (fun _ => -1)) := by unfold nFr; rw [Int.toNat_natCast]
  rw [hFm]
  have x1 := h1.frame (C' := C5) (F := ((eSn E t).toNat, t, (aFr s3 f).2.2.1 + 1, (f : Int), at_, agF (fg E s3 f) (prs_ (fg E s3 f) (fn E s3 f) 30 (at_ + 1)) 0 (fun _ => -1))) (fun p => h2.1 _ (Nat.le_refl _) p) hg (by omega) f45
    ((f5.fI (z4 ze) (by omega)).trans v1) (((f5.fI (z4 ze) (by omega)).trans v2).trans (by omega)) ((f5.fR (z4 zF) (by omega)).trans v9) ((f5.fI (z4 zF) (by omega)).trans v7) ht
    ((f5.fI (z4 zF) (by omega)).trans v8) (by show (aFr s3 f).2.2.1 + 1 ≤ 6; omega) (Or.inr ⟨by show (0 : Int) ≤ (f : Int); omega, by show (f : Int) < (aNf s3 : Int); omega, by show _ = some (b + 169 + 4 * ((f : Int)).toNat); rw [Int.toNat_natCast]; exact (f5.fR (z4 zF) (by omega)).trans v10⟩)
    (fun x hx => by
      rw [w1 x hx]
      show agF (fg E s3 f) (prs_ (fg E s3 f) (fn E s3 f) 30 (at_ + 1)) 0 (fun y => cE C4 (b + 169 + 4 * aNf s3 + 1) y) x = agF (fg E s3 f) (prs_ (fg E s3 f) (fn E s3 f) 30 (at_ + 1)) 0 (fun _ => -1) x
      exact agF_ext (v11 x hx)) (fun p hp => (f5.fE (z4 (W _ (hL.fbo hg).1)) (by omega) p).trans (v12 p hp)) ⟨t, ht, hne, rfl⟩ n2 n3
    (fun x hx => by
      rcases agF_ok (g := fg E s3 f) (n := fn E s3 f) (m := 30) (i := at_ + 1) (x := x) with y | ⟨y1, y2, y3⟩
      · exact Or.inl y
      · refine Or.inr ⟨by show (0 : Int) ≤ (f : Int); omega, by show (f : Int) < (aNf s3 : Int); omega, y1, ?_, ?_⟩
        · show _ < (fn E s3 ((f : Int)).toNat : Int); rw [Int.toNat_natCast]; exact y2
        · show mkB (fg E s3 ((f : Int)).toNat _ / 1000) = true; rw [Int.toNat_natCast]; exact y3)
  obtain ⟨x1, fX, dy⟩ := x1
  obtain ⟨k1, rows⟩ := keep_frame (r := r) (ra := ra) (F := ((eSn E t).toNat, t, (aFr s3 f).2.2.1 + 1, (f : Int), at_, agF (fg E s3 f) (prs_ (fg E s3 f) (fn E s3 f) 30 (at_ + 1)) 0 (fun _ => -1))) h1 rfl hg (Nat.lt_succ_self _) f45 (by omega) fX dy ⟨y3.trans y1, y4.trans y2⟩
  have hrow := rows ra acc h3 h4
  have zr0 := W _ (hL.uo hr0).1
  refine ⟨C4, C5, e4, hL4, a504, e5, ⟨x1, ?_, hrow.2, hrow.1, ⟨by omega, hg, (f5.fR (z4 zr) (by omega)).trans v3, (f5.fR (z4 zr) (by omega)).trans v4, (f5.fI (z4 zr) (by omega)).trans v5⟩, (f5.fI (z4 zr) (by omega)).trans v6⟩, ⟨hr0, hf41, (f45.fR zr0 (by unfold sOf sBeg sRun; omega)).trans h900, (f45.fR zr0 (by unfold sOf sBeg sRun; omega)).trans h901, (f45.fI zr0 (by unfold sOf sBeg sRun; omega)).trans h902⟩, (f45.fI zr0 (by unfold sOf sBeg sRun; omega)).trans h6, hrow.2, hrow.1, k1, fun a _ hne => hne⟩
  refine ⟨fun f' hf' p => h2.1 f' ?_ p, ?_⟩
  · have : aNf s3 + 1 ≤ f' := hf'
    omega
  · show aNf s3 + 1 ≤ aCa s3 + 1
    omega
/-- a CALL that makes a frame -/
theorem X1_giveCall_new (h : Pre b C E VA up s r f ra i e acc) (hEn : EnP E) (hf : f < aNf s) {v : Nat} (hv : v < 24) {at_ : Nat} (hat : at_ < fn E s f) (c40 : aCa s < 40) (hne : (wayF E 5 v 0).1 ≠ -1) (hcm : cmF s 41 f (wayF E 5 v 0).1 = false) (hd6 : (aFr s f).2.2.1 < 6) (hr : r < 511) :
   ∃ C', fX1_giveCall (b + 1) (some (b + 333 + r)) (at_ : Int) (v : Int) C = some ((), C') ∧ Sub b C C' E VA up s (uFr (uSe (uCa s) 0 0 (wayF E 5 v 0).2 0 0) (nFr E s f at_ (wayF E 5 v 0).1)) r f ra i e acc (aNf s) ra 0 (eTl E (eSn E (wayF E 5 v 0).1.toNat).toNat) acc := by
  obtain ⟨D2, D3, e2, e3, hLD, p3⟩ := call_main h hEn hf hv c40
  obtain ⟨hd, hw, wne⟩ := call_dn h hEn hf hv p3 hne
  rw [hcm, ite_ff] at hd
  have hgc := h.2.1.2
  obtain ⟨t, ht⟩ : ∃ t : Nat, (wayF E 5 v 0).1 = (t : Int) := ⟨(wayF E 5 v 0).1.toNat, by omega⟩
  have e506 : cI D3 506 (b + 169 + 4 * f) = ((aFr s f).2.2.1 : Int) := (p3.1.2.2.1 f hf).1.2.2.2.1
  have e411 := p3.1.2.2.2.2.2.2.1.2.2.2.2.2
  rw [ht] at hw hd wne e2
  have ht24 : t < 24 := by omega
  have htn : eSn E t ≠ -1 := by have q := hw.2.2; rw [Int.toNat_natCast] at q; exact q
  have hta := (p3.1.2.2.2.2.2.2.2.2.now p3.1.1.W).2.1 t ht24
  unfold tRef at hta
  rw [if_neg htn] at hta
  obtain ⟨C4, C5, e4, hL4, a504, e5, sb⟩ := frame_new (at_ := at_) (t := t) p3.pre hEn hf ht24 htn hat hd6 (by show aNf s < 41; omega) (by show aNf s ≤ aCa s + 1; exact hgc) hr
  refine ⟨C5, ?_, ?_⟩
  · rw [call_pre h c40 (by rw [ht]; exact e2) e3 hLD]
    unfold callRest
    have hU := p3.1.1.uo h.2.2.2.2.1.1
    have hF3 := p3.1.1.fo h.2.2.2.2.1.2.1
    have h901 := p3.2.2.2.2.1.2.2.2.1
    have hF4 := hL4.fo h.2.2.2.2.1.2.1
    have hFg := hL4.fo (show aNf (uSe (uCa s) 0 0 (wayF E 5 v 0).2 0 0) < 41 by show aNf s < 41; omega)
    rw [ht, if_pos wne, drf_some, if_pos hF3, cal_of hd, if_pos (by decide), if_pos hF3, e506, if_pos (by rw [w32_n (by omega), show w32 6 = 6 from rfl]; omega), if_pos p3.1.1.oe, if_pos p3.1.1.oe, e411, cal_of hta, if_pos hU, bnd_eq, h901, if_pos p3.1.1.oe]
    rw [cal_of e4, opt_some, if_pos hF4, bnd_eq, a504, if_pos hFg]
    rw [cal_of e5]
  · obtain ⟨q1, q2, q3, q4, q5, q6, q7⟩ := sb
    rw [ht, Int.toNat_natCast]
    have k := p3.2.2.2.2.2.2
    exact ⟨q1, q2, q3, q4, q5, k.tr q6, fun a _ hne => hne⟩
end CALL3
