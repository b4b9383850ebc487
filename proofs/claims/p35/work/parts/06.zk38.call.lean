/-! THE CLASS COMES TO A CALL -/
section CALL
variable {b : Nat} {C C' : Cd} {E : Env} {VA : Nat → Nat} {up : Int} {s s' : ASt} {r ra f i e : Nat} {acc : List Int}
theorem Pre.touch (h : Pre b C E VA up s r f ra i e acc) {f' i' : Nat} (hf : f' < aNf s) (ho : opB (fg E s f' i' / 1000) = true) : Pre b C E VA up (uPs s f' i' 2) r f ra i e acc :=
  ⟨h.1.touch ho, h.2.1.touch hf 2, h.2.2.1.touch ho, h.2.2.2⟩
theorem Keep.touch (hL : Lay b C) {f' i' : Nat} (ho : opB (fg E s f' i' / 1000) = true) : Keep b C C E s (uPs s f' i' 2) r ra :=
  ⟨fun _ _ => ⟨rfl, rfl, rfl, rfl⟩, fun a q h1 _ h2 => ⟨h2, h1.touch ho⟩, Nat.le_refl _, fun _ _ => rfl, Fp.rf hL.W, fun x h => Or.inl h, Rm.rf⟩
theorem post_cnt (h : Pre b C E VA up s r f ra i e acc) (hca : aCa s < 40) : Post b C (cSetI C 410 (b + 1) ((aCa s : Int) + 1)) E VA up s (uCa s) r f ra i e acc := by
  obtain ⟨h1, h2, h3, h4, ⟨hr, hf, h900, h901, h902⟩, h6⟩ := h
  have hL := h1.1
  have hz := hL.sz
  have f1 : Fp (fun q k a => q = 0 ∧ (k = 409 ∨ k = 410) ∧ a = b + 1) C (cSetI C 410 (b + 1) ((aCa s : Int) + 1)) := (Fp.rf hL.W).sI ⟨rfl, Or.inr rfl, rfl⟩
  have hI := h1.2.2.2.2.2.2.1
  have x1 := h1.cnt (s' := uCa s) (R' := r + 1) f1 ((cI_I2 _ _ (Or.inl (by decide))).trans hI.2.2.1) ((cI_I1 _ _ _ _).trans (by show (aCa s : Int) + 1 = ((aCa s + 1 : Nat) : Int); omega)) (by show aCa s + 1 ≤ 40; omega) (Or.inr rfl)
  have pk : ∀ f', f' < 41 → ∀ x, cP (cSetI C 410 (b + 1) ((aCa s : Int) + 1)) (b + 169 + 4 * f' + 2) x = cP C (b + 169 + 4 * f' + 2) x := fun _ _ _ => rfl
  have fX : Fp (sX b (DyC b C)) C (cSetI C 410 (b + 1) ((aCa s : Int) + 1)) := f1.mono (fun q k a _ z => Or.inl ⟨z.1, Or.inl ⟨z.2.2, by omega, by omega⟩⟩)
  have cc : ∀ a, CurR b C E s a → CurR b (cSetI C 410 (b + 1) ((aCa s : Int) + 1)) E (uCa s) a := fun a ha => ha
  have c0 := h1.cur0 h3
  refine ⟨x1, ⟨h2.1, by have := h2.2; show aNf s ≤ aCa s + 1 + 1; omega⟩, cc ra h3, h4.fp hL.W f1 (by omega) (by omega) (by omega) (by omega), ⟨hr, hf, h900, h901, (cI_I2 _ _ (Or.inl (by decide))).trans h902⟩, (cI_I2 _ _ (Or.inl (by decide))).trans h6, fun r' _ => ⟨rfl, rfl, cI_I2 _ _ (Or.inl (by decide)), cI_I2 _ _ (Or.inl (by decide))⟩, fun a q q1 q2 q3 => ⟨q3.fp hL.W f1 (by omega) (by omega) (by omega) (by omega), cc a q1⟩, Nat.le_refl _, fun _ _ => rfl, fX, fun x hx => Or.inl hx, Rm.same ⟨rfl, rfl⟩ (fun _ _ _ => rfl)⟩
/-- a number put behind the row -/
theorem post_put (h : Pre b C E VA up s r f ra i e acc) {x : Int} (hx : 0 ≤ x ∧ x < 10000) : ∃ C', fX5_add ra x C = some ((), C') ∧ Post b C C' E VA up s s r f ra i e (apl acc x) := by
  have hh := h
  obtain ⟨h1, h2, h3, h4, ⟨hr, hf, h900, h901, h902⟩, h6⟩ := h
  have hz := h1.1.sz
  obtain ⟨C', e1, r1, f1, z1, z2⟩ := X5_add_ h1.1.W h4 hx.1 hx.2
  exact ⟨C', e1, post_plain hh (f1.mono (fun _ _ _ _ z => Or.inl (Or.inr (Or.inl z)))) ⟨rfl, rfl, rfl, rfl, rfl⟩ (h1.2.2.2.2.2.1.of (fun k _ _ => f1.fI (by omega) (by unfold sRow; omega))) r1 ((f1.fI (h1.1.W _ (h1.1.uo hr).1) (by unfold sRow; omega)).trans h902) ⟨z1, z2⟩⟩
/-- a set of found ones grows -/
theorem post_set (h : Pre b C E VA up s r f ra i e acc) {k : Nat} {v : Int} {l q : Nat} (hk : (k = 703 ∧ v = ((aLk s ||| l : Nat) : Int) ∧ q = 0) ∨ (k = 705 ∧ v = ((aRd s ||| q : Nat) : Int) ∧ l = 0)) (hl : l < 16777216) (hq : q < 16777216) : Post b C (cSetI C k (b + 10) v) E VA up s (uSe s l 0 q 0 0) r f ra i e acc := by
  have hh := h
  obtain ⟨h1, h2, h3, h4, ⟨hr, hf, h900, h901, h902⟩, h6⟩ := h
  have hSe := h1.2.2.2.2.2.1
  have f1 : Fp (fun q k' a => q = 0 ∧ k' = k ∧ a = b + 10) C (cSetI C k (b + 10) v) := (Fp.rf h1.1.W).sI ⟨rfl, rfl, rfl⟩
  have hse : SeC b (cSetI C k (b + 10) v) (uSe s l 0 q 0 0) := by
    rcases hk with ⟨e1, e2, e3⟩ | ⟨e1, e2, e3⟩
    · subst e1 e3
      exact hSe.mk ((cI_I1 _ _ _ _).trans e2) (or0 ((cI_I2 _ _ (Or.inl (by decide))).trans hSe.2.1.1)) (or0 ((cI_I2 _ _ (Or.inl (by decide))).trans hSe.2.2.1.1)) (or0 ((cI_I2 _ _ (Or.inl (by decide))).trans hSe.2.2.2.1.1)) (or0 ((cI_I2 _ _ (Or.inl (by decide))).trans hSe.2.2.2.2.1)) hl (by decide) (by decide) (by decide) (by decide)
    · subst e1 e3
      exact hSe.mk (or0 ((cI_I2 _ _ (Or.inl (by decide))).trans hSe.1.1)) (or0 ((cI_I2 _ _ (Or.inl (by decide))).trans hSe.2.1.1)) ((cI_I1 _ _ _ _).trans e2) (or0 ((cI_I2 _ _ (Or.inl (by decide))).trans hSe.2.2.2.1.1)) (or0 ((cI_I2 _ _ (Or.inl (by decide))).trans hSe.2.2.2.2.1)) (by decide) (by decide) hq (by decide) (by decide)
  exact post_plain (s' := uSe s l 0 q 0 0) hh (f1.mono (fun q k' a _ z => Or.inl (Or.inr (Or.inr ⟨z.1, z.2.2, by omega, by omega⟩)))) ⟨rfl, rfl, rfl, rfl, rfl⟩ hse (h4.fp h1.1.W f1 (by omega) (by omega) (by omega) (by omega)) ((cI_I2 _ _ (Or.inl (by omega))).trans h902) ⟨rfl, rfl⟩
theorem uSe_two (s : ASt) (l q : Nat) : uSe (uSe s 0 0 q 0 0) l 0 0 0 0 = uSe s l 0 q 0 0 := by
  unfold uSe
  simp only [Nat.or_zero]
/-- the way of a CALL -/
theorem post_way (h : Pre b C E VA up s r f ra i e acc) (hEn : EnP E) {t : Nat} (ht : t < 24) : ∃ C', fX1_goalOf (b + 1) (t : Int) (cI C 411 (b + 1)) C = some ((wayF E 5 t 0).1, C') ∧ cI C' 412 (b + 1) = ((wayF E 5 t 0).2 : Int) ∧ Post b C C' E VA up s s r f ra i e acc := by
  have hh := h
  obtain ⟨h1, h2, h3, h4, ⟨hr, hf, h900, h901, h902⟩, h6⟩ := h
  have hE := h1.2.2.2.2.2.2.2.2
  have h411 := h1.2.2.2.2.2.2.1.2.2.2.2.2
  have wx : ∀ {q k a : Nat}, sWy b q k a → sX b (DyC b C) q k a := fun z => Or.inl ⟨z.1, Or.inl ⟨z.2.2, by have := z.2.1; omega, by have := z.2.1; omega⟩⟩
  obtain ⟨C', e1, f1, z1, z2, v1⟩ := X1_goalOf_ (E := E) (VA := VA) (up := up) h1.1 (fun C1 f1 t ht => (hE C1 (f1.mono (fun _ _ _ _ z => wx z))).2.1 t ht)
    (fun t ht hne => by
      obtain ⟨_, q2, q3⟩ := hEn.1 t ht hne
      exact ⟨(hE.now h1.1.W).1 t ht hne, by have := q2.1.1; omega, q3⟩) ht
  rw [h411]
  refine ⟨C', e1, v1, post_plain hh (f1.mono (fun q k a _ z => Or.inr (Or.inl ⟨z.1, z.2.2, by have := z.2.1; omega, by have := z.2.1; omega⟩))) ⟨rfl, rfl, rfl, rfl, rfl⟩ (h1.2.2.2.2.2.1.of (fun k _ _ => f1.fI (by have := h1.1.sz; omega) (by unfold sWy; omega))) (h4.fp h1.1.W f1 (by unfold sWy; omega) (by unfold sWy; omega) (by unfold sWy; omega) (by unfold sWy; omega)) ((f1.fI (h1.1.W _ (h1.1.uo hr).1) (by unfold sWy; omega)).trans h902) ⟨z1, z2⟩⟩
theorem pre_at (h : Pre b C E VA up s r f ra i e acc) : cI C 902 (b + 333 + r) = (i : Int) := h.2.2.2.2.1.2.2.2.2
/-- a CALL, its way found -/
def callRest (b r f : Nat) (at_ v w : Int) (D3 : Cd) : Option (Unit × Cd) :=
if ¬ w32 w = w32 (-1) then
drf (some (b + 169 + 4 * f)) fun (p9 : Nat) =>
if isO D3 p9 5 then cal (fX2_comesFrom p9 w D3) fun (r11 : Int) (C10 : Cd) =>
if w32 r11 = 0 then
if isO C10 p9 5 then
if w32 (cI C10 506 p9) < w32 6 then
if isO C10 (b + 1) 4 then
if isO C10 (b + 1) 4 then cal (fX1_textAt (b + 1) w (cI C10 411 (b + 1)) C10) fun (r13 : Option Nat) (C12 : Cd) =>
if isO C12 (b + 333 + r) 9 then bnd (cR C12 901 (b + 333 + r)) fun (z14 : Option Nat) =>
if isO C12 (b + 1) 4 then cal (fX1_openFrame (b + 1) w r13 (some p9) z14 C12) fun (r16 : Option Nat) (C15 : Cd) =>
opt r16 (
some ((), C15)) (fun (p17 : Nat) =>
if isO C15 p9 5 then bnd (cR C15 504 p9) fun (z18 : Option Nat) =>
if isO C15 p17 5 then cal (fX2_takeArguments p17 z18 at_ C15) fun (r20 : Unit) (C19 : Cd) =>
some ((), C19)
else none
else none)
else none
else none
else none
else none
else
if isO C10 (b + 333 + r) 9 then bnd (cR C10 901 (b + 333 + r)) fun (z21 : Option Nat) =>
drf z21 fun (p22 : Nat) =>
if isO C10 p22 8 then cal (fX5_add p22 9002 C10) fun (r24 : Unit) (C23 : Cd) =>
some ((), C23)
else none
else none
else none
else
if isO C10 (b + 333 + r) 9 then bnd (cR C10 901 (b + 333 + r)) fun (z25 : Option Nat) =>
drf z25 fun (p26 : Nat) =>
if isO C10 p26 8 then cal (fX5_add p26 9001 C10) fun (r28 : Unit) (C27 : Cd) =>
some ((), C27)
else none
else none
else none
else
if isO D3 (b + 1) 4 then bnd (cR D3 407 (b + 1)) fun (z29 : Option Nat) =>
drf z29 fun (p30 : Nat) =>
if isO D3 p30 7 then
if isO D3 p30 7 then bnd (cSetI D3 703 p30 (orI (cI D3 703 p30) (shlI 1 v))) fun (C31 : Cd) =>
if isO C31 (b + 333 + r) 9 then bnd (cR C31 901 (b + 333 + r)) fun (z32 : Option Nat) =>
drf z32 fun (p33 : Nat) =>
if isO C31 p33 8 then cal (fX5_add p33 (2000 + v) C31) fun (r35 : Unit) (C34 : Cd) =>
some ((), C34)
else none
else none
else none
else none
else none
theorem call_main (h : Pre b C E VA up s r f ra i e acc) (hEn : EnP E) (hf : f < aNf s) {v : Nat} (hv : v < 24) : aCa s < 40 → ∃ D2 D3, (fX1_goalOf (b + 1) (v : Int) (cI (cSetI C 410 (b + 1) ((aCa s : Int) + 1)) 411 (b + 1)) (cSetI C 410 (b + 1) ((aCa s : Int) + 1)) = some ((wayF E 5 v 0).1, D2)) ∧ D3 = cSetI D2 705 (b + 10) (orI (cI D2 705 (b + 10)) (cI D2 412 (b + 1))) ∧ Lay b D2 ∧ Post b C D3 E VA up s (uSe (uCa s) 0 0 (wayF E 5 v 0).2 0 0) r f ra i e acc := by
  have hwl := wayF_lt E 5 v 0 (by decide) hv (fun t ht hne hk => by
    obtain ⟨q1, q2, q3⟩ := hEn.1 t ht hne
    have ok := q3 0 (by have := q2.1.1; omega)
    unfold okt at ok
    have := ok.2.2.1 (Or.inr (Or.inr hk))
    omega)
  intro c40
  have p1 := post_cnt h c40
  obtain ⟨D2, e2, v2, p2⟩ := post_way p1.pre hEn hv
  have hse2 := p2.1.2.2.2.2.2.1
  have hset : orI (cI D2 705 (b + 10)) (cI D2 412 (b + 1)) = ((aRd (uCa s) ||| (wayF E 5 v 0).2 : Nat) : Int) := by rw [v2, hse2.2.2.1.1]; exact set_24 hse2.2.2.1.2 hwl.1
  have p3 := post_set p2.pre (k := 705) (l := 0) (q := (wayF E 5 v 0).2) (Or.inr ⟨rfl, hset, rfl⟩) (by decide) hwl.1
  exact ⟨D2, _, e2, rfl, p2.1.1, (p1.tr p2).tr p3⟩
theorem call_pre (h : Pre b C E VA up s r f ra i e acc) {v : Nat} {at_ : Int} (c40 : aCa s < 40) {D2 D3 : Cd} (e2 : fX1_goalOf (b + 1) (v : Int) (cI (cSetI C 410 (b + 1) ((aCa s : Int) + 1)) 411 (b + 1)) (cSetI C 410 (b + 1) ((aCa s : Int) + 1)) = some ((wayF E 5 v 0).1, D2)) (e3 : D3 = cSetI D2 705 (b + 10) (orI (cI D2 705 (b + 10)) (cI D2 412 (b + 1)))) (hLD : Lay b D2) :
   fX1_giveCall (b + 1) (some (b + 333 + r)) at_ (v : Int) C = callRest b r f at_ v (wayF E 5 v 0).1 D3 := by
  have hL := h.1.1
  have hU := hL.uo h.2.2.2.2.1.1
  have h900 := h.2.2.2.2.1.2.2.1
  have hca := h.1.2.2.2.2.2.2.1.2.2.2.1
  unfold fX1_giveCall callRest
  rw [if_pos hL.oe, hca, if_pos (by rw [w32_n (by omega), show w32 40 = 40 from rfl]; omega), if_pos hL.oe, if_pos hL.oe, bnd_eq, drf_some, if_pos (show isO (cSetI C 410 _ _) (b + 333 + r) 9 from hU), bnd_eq, show cR (cSetI C 410 (b + 1) ((aCa s : Int) + 1)) 900 (b + 333 + r) = some (b + 169 + 4 * f) from h900, if_pos (show isO (cSetI C 410 _ _) (b + 1) 4 from hL.oe), if_pos (show isO (cSetI C 410 _ _) (b + 1) 4 from hL.oe), cal_of e2, if_pos hLD.oe, bnd_eq, drf_eq hLD.x7, if_pos hLD.od, if_pos hLD.oe, if_pos hLD.od, bnd_eq, ← e3, bnd_eq]
theorem call_dn (h : Pre b C E VA up s r f ra i e acc) (hEn : EnP E) (hf : f < aNf s) {v : Nat} (hv : v < 24) {D3 : Cd} (p3 : Post b C D3 E VA up s (uSe (uCa s) 0 0 (wayF E 5 v 0).2 0 0) r f ra i e acc) (hne : (wayF E 5 v 0).1 ≠ -1) : fX2_comesFrom (b + 169 + 4 * f) (wayF E 5 v 0).1 D3 = some (if cmF s 41 f (wayF E 5 v 0).1 = true then 1 else 0, D3) ∧ (0 ≤ (wayF E 5 v 0).1 ∧ (wayF E 5 v 0).1 < 24 ∧ eSn E (wayF E 5 v 0).1.toNat ≠ -1) ∧ ¬ w32 (wayF E 5 v 0).1 = w32 (-1) := by
  have hn41 := h.1.2.2.2.2.2.2.1.2.1
  have hwl := wayF_lt E 5 v 0 (by decide) hv (fun t ht hne hk => by
    obtain ⟨q1, q2, q3⟩ := hEn.1 t ht hne
    have ok := q3 0 (by have := q2.1.1; omega)
    unfold okt at ok
    have := ok.2.2.1 (Or.inr (Or.inr hk))
    omega)
  have hF3 := p3.1.2.2.1
  have hr := hwl.2.resolve_left hne
  refine ⟨X2_comesFrom_ (s := uSe (uCa s) 0 0 (wayF E 5 v 0).2 0 0) p3.1.1 hn41 (fun f' hf' => ⟨(hF3 f' hf').1.2.1, (hF3 f' hf').1.2.2.1, (hF3 f' hf').2.1⟩) hf ⟨by omega, by omega⟩, hr, fun z => ?_⟩
  rw [w32_of (by omega) (by omega), show w32 (-1) = -1 from rfl] at z
  exact hne z
/-- what a CALL does that makes no frame -/
theorem X1_giveCall_no (h : Pre b C E VA up s r f ra i e acc) (hEn : EnP E) (hf : f < aNf s) {v : Nat} (hv : v < 24) (at_ : Int) :
   (40 ≤ aCa s → ∃ C', fX1_giveCall (b + 1) (some (b + 333 + r)) at_ (v : Int) C = some ((), C') ∧ Post b C C' E VA up s s r f ra i e (apl acc 9003)) ∧
   (aCa s < 40 → (wayF E 5 v 0).1 = -1 → ∃ C', fX1_giveCall (b + 1) (some (b + 333 + r)) at_ (v : Int) C = some ((), C') ∧ Post b C C' E VA up s (uSe (uCa s) (2 ^ v) 0 (wayF E 5 v 0).2 0 0) r f ra i e (apl acc (2000 + (v : Int)))) ∧
   (aCa s < 40 → (wayF E 5 v 0).1 ≠ -1 → cmF s 41 f (wayF E 5 v 0).1 = true → ∃ C', fX1_giveCall (b + 1) (some (b + 333 + r)) at_ (v : Int) C = some ((), C') ∧ Post b C C' E VA up s (uSe (uCa s) 0 0 (wayF E 5 v 0).2 0 0) r f ra i e (apl acc 9001)) ∧
   (aCa s < 40 → (wayF E 5 v 0).1 ≠ -1 → cmF s 41 f (wayF E 5 v 0).1 = false → 6 ≤ (aFr s f).2.2.1 → ∃ C', fX1_giveCall (b + 1) (some (b + 333 + r)) at_ (v : Int) C = some ((), C') ∧ Post b C C' E VA up s (uSe (uCa s) 0 0 (wayF E 5 v 0).2 0 0) r f ra i e (apl acc 9002)) := by
  have hL := h.1.1
  have hU := hL.uo h.2.2.2.2.1.1
  have h901 := h.2.2.2.2.1.2.2.2.1
  have h900 := h.2.2.2.2.1.2.2.1
  have hca := h.1.2.2.2.2.2.2.1.2.2.2.1
  have hn41 := h.1.2.2.2.2.2.2.1.2.1
  have hca40 := h.1.2.2.2.2.2.2.1.2.2.2.2.1
  have hwl := wayF_lt E 5 v 0 (by decide) hv (fun t ht hne hk => by
    obtain ⟨q1, q2, q3⟩ := hEn.1 t ht hne
    have ok := q3 0 (by have := q2.1.1; omega)
    unfold okt at ok
    have := ok.2.2.1 (Or.inr (Or.inr hk))
    omega)
  refine ⟨fun c40 => ?_, ?_⟩
  · obtain ⟨C', e1, p1⟩ := post_put h (x := 9003) (by decide)
    refine ⟨C', ?_, p1⟩
    unfold fX1_giveCall
    rw [if_pos hL.oe, hca, if_neg (by rw [w32_n (by omega), show w32 40 = 40 from rfl]; omega), drf_some, if_pos hU, bnd_eq, drf_eq h901, if_pos h.2.2.2.1.ob, cal_of e1]
  · refine ⟨fun c40 hg => ?_, fun c40 hne hcm => ?_, fun c40 hne hcm hd6 => ?_⟩
    · obtain ⟨D2, D3, e2, e3, hLD, p3⟩ := call_main h hEn hf hv c40
      have hse3 := p3.1.2.2.2.2.2.1
      have hset : orI (cI D3 703 (b + 10)) (shlI 1 (v : Int)) = ((aLk (uSe (uCa s) 0 0 (wayF E 5 v 0).2 0 0) ||| 2 ^ v : Nat) : Int) := by rw [hse3.1.1]; exact orI_set hse3.1.2 hv
      have h2p : (2 : Nat) ^ v < 2 ^ 24 := Nat.pow_lt_pow_right (by decide) hv
      have p4 := post_set p3.pre (k := 703) (l := 2 ^ v) (q := 0) (Or.inl ⟨rfl, hset, rfl⟩) h2p (by decide)
      rw [uSe_two] at p4
      obtain ⟨C', e5, p5⟩ := post_put p4.pre (x := 2000 + (v : Int)) (by omega)
      refine ⟨C', ?_, (p3.tr p4).tr p5⟩
      rw [call_pre h c40 e2 e3 hLD]; unfold callRest; rw [ if_neg (by rw [hg]; exact fun z => z rfl), if_pos p3.1.1.oe, bnd_eq, drf_eq p3.1.1.x7, if_pos p3.1.1.od, if_pos p3.1.1.od, bnd_eq, if_pos (p4.1.1.uo h.2.2.2.2.1.1), bnd_eq, drf_eq p4.2.2.2.2.1.2.2.2.1, if_pos p4.2.2.2.1.ob, cal_of e5]
    · obtain ⟨D2, D3, e2, e3, hLD, p3⟩ := call_main h hEn hf hv c40
      obtain ⟨C', e5, p5⟩ := post_put p3.pre (x := 9001) (by decide)
      refine ⟨C', ?_, p3.tr p5⟩
      have hd := (call_dn h hEn hf hv p3 hne).1
      rw [hcm, ite_tt] at hd
      rw [call_pre h c40 e2 e3 hLD]; unfold callRest; rw [ if_pos ((call_dn h hEn hf hv p3 hne).2.2), drf_some, if_pos (p3.1.1.fo (by omega)), cal_of hd, if_neg (by decide), if_pos (p3.1.1.uo h.2.2.2.2.1.1), bnd_eq, drf_eq p3.2.2.2.2.1.2.2.2.1, if_pos p3.2.2.2.1.ob, cal_of e5]
    · obtain ⟨D2, D3, e2, e3, hLD, p3⟩ := call_main h hEn hf hv c40
      obtain ⟨C', e5, p5⟩ := post_put p3.pre (x := 9002) (by decide)
      refine ⟨C', ?_, p3.tr p5⟩
      have hd := (call_dn h hEn hf hv p3 hne).1
      rw [hcm, ite_ff] at hd
      have h506 : cI D3 506 (b + 169 + 4 * f) = ((aFr s f).2.2.1 : Int) := (p3.1.2.2.1 f hf).1.2.2.2.1
      have hd62 := (h.1.2.2.1 f hf).1.2.2.2.2
      rw [call_pre h c40 e2 e3 hLD]; unfold callRest; rw [ if_pos ((call_dn h hEn hf hv p3 hne).2.2), drf_some, if_pos (p3.1.1.fo (by omega)), cal_of hd, if_pos (by decide), if_pos (p3.1.1.fo (by omega)), h506, if_neg (by rw [w32_n (by omega), show w32 6 = 6 from rfl]; omega), if_pos (p3.1.1.uo h.2.2.2.2.1.1), bnd_eq, drf_eq p3.2.2.2.2.1.2.2.2.1, if_pos p3.2.2.2.1.ob, cal_of e5]
end CALL
