/-! A STRETCH GOES OVER A CALL -/
section SEGC
variable {b : Nat} {C C' C'' C1 : Cd} {E : Env} {VA : Nat → Nat} {up : Int} {s s' s'' s1 : ASt} {r ra f i e f2 ra2 i2 e2 i3 : Nat} {acc acc2 acc3 : List Int}
theorem cmF_uPs (s : ASt) (a c x : Nat) (t : Int) : ∀ n f, cmF (uPs s a c x) n f t = cmF s n f t := by
  intro n
  induction n with
  | zero => intro f; rfl
  | succ n ih =>
    intro f
    unfold cmF
    rw [ih]
    rfl
theorem post_touch (h : Post b C C1 E VA up s s1 r f ra i e acc) {f' i' : Nat} (hf : f' < aNf s1) (ho : opB (fg E s1 f' i' / 1000) = true) : Post b C C1 E VA up s (uPs s1 f' i' 2) r f ra i e acc :=
  h.tr ⟨(h.pre.touch hf ho).1, (h.pre.touch hf ho).2.1, (h.pre.touch hf ho).2.2.1, (h.pre.touch hf ho).2.2.2.1, (h.pre.touch hf ho).2.2.2.2.1, (h.pre.touch hf ho).2.2.2.2.2, Keep.touch h.1.1 ho⟩
/-- the waiting run's place goes on -/
theorem sub_at (h : Sub b C C' E VA up s s' r f ra i e acc f2 ra2 i2 e2 acc2) (i' : Nat) : Sub b C (cSetI C' 902 (b + 333 + r) (i' : Int)) E VA up s s' r f ra i' e acc f2 ra2 i2 e2 acc2 := by
  obtain ⟨⟨p1, p2, p3, p4, ⟨p5, p6, p7, p8, p9⟩, p10⟩, ⟨q1, q2, q3, q4, q5⟩, q6, q7, q8, q9, q10⟩ := h
  have W := p1.1.W
  have hz := p1.1.sz
  have f1 : Fp (fun q k a => q = 0 ∧ k = 902 ∧ a = b + 333 + r) C' (cSetI C' 902 (b + 333 + r) (i' : Int)) := (Fp.rf W).sI ⟨rfl, rfl, rfl⟩
  have c0 := p1.cur0 p3
  obtain ⟨x1, x2, x3, x4⟩ := p1.plain (s' := s') q7 q1 q8 (f1.mono (fun _ _ _ _ z => Or.inl (Or.inl z))) ⟨rfl, rfl, rfl, rfl, rfl⟩ (p1.2.2.2.2.2.1.of (fun k _ _ => cI_I2 _ _ (Or.inl (by omega))))
  refine ⟨⟨x1, p2, p3, p4.fp W f1 (by omega) (by omega) (by omega) (by omega), ⟨p5, p6, p7, p8, (cI_I2 _ _ (Or.inr (by omega))).trans p9⟩, (cI_I2 _ _ (Or.inl (by decide))).trans p10⟩, ⟨q1, q2, q3, q4, cI_I1 _ _ _ _⟩, (cI_I2 _ _ (Or.inl (by decide))).trans q6, x2, q8.fp W f1 (by omega) (by omega) (by omega) (by omega), ?_, q10⟩
  exact q9.tr (Keep.plain (s' := s') p1 q7 q1 (f1.mono (fun _ _ _ _ z => Or.inl (Or.inl z))) ⟨rfl, rfl, rfl⟩ x3 x4 ⟨rfl, rfl⟩)
theorem op_call {k : Int} (h : k = 2 ∨ k = 3 ∨ k = 4) : opB k = true := by
  rcases h with e | e | e <;> subst e <;> rfl
/-- a CALL without a frame -/
theorem seg_call_no (h : Pre b C E VA up s r f ra i e acc) (hEn : EnP E) (hf : f < aNf s) (hi : i < fn E s f) (ek : fg E s f i / 1000 = 2) :
   (40 ≤ aCa s → ∃ C', fX1_stepOn (b + 1) (some (b + 333 + r)) C = some ((), C') ∧ Post b C C' E VA up s (uPs s f i 2) r f ra (fE (fg E s f) (fn E s f) i + 1) e (apl acc 9003)) ∧
   (aCa s < 40 → (wayF E 5 (fg E s f i % 1000).toNat 0).1 = -1 → ∃ C', fX1_stepOn (b + 1) (some (b + 333 + r)) C = some ((), C') ∧ Post b C C' E VA up s (uSe (uCa (uPs s f i 2)) (2 ^ (fg E s f i % 1000).toNat) 0 (wayF E 5 (fg E s f i % 1000).toNat 0).2 0 0) r f ra (fE (fg E s f) (fn E s f) i + 1) e (apl acc (2000 + fg E s f i % 1000))) ∧
   (aCa s < 40 → (wayF E 5 (fg E s f i % 1000).toNat 0).1 ≠ -1 → cmF s 41 f (wayF E 5 (fg E s f i % 1000).toNat 0).1 = true → ∃ C', fX1_stepOn (b + 1) (some (b + 333 + r)) C = some ((), C') ∧ Post b C C' E VA up s (uSe (uCa (uPs s f i 2)) 0 0 (wayF E 5 (fg E s f i % 1000).toNat 0).2 0 0) r f ra (fE (fg E s f) (fn E s f) i + 1) e (apl acc 9001)) ∧
   (aCa s < 40 → (wayF E 5 (fg E s f i % 1000).toNat 0).1 ≠ -1 → cmF s 41 f (wayF E 5 (fg E s f i % 1000).toNat 0).1 = false → 6 ≤ (aFr s f).2.2.1 → ∃ C', fX1_stepOn (b + 1) (some (b + 333 + r)) C = some ((), C') ∧ Post b C C' E VA up s (uSe (uCa (uPs s f i 2)) 0 0 (wayF E 5 (fg E s f i % 1000).toNat 0).2 0 0) r f ra (fE (fg E s f) (fn E s f) i + 1) e (apl acc 9002)) := by
  have hF := (h.1.2.2.1 f hf).1
  have hok := (h.1.2.2.2.1 f hf).2.2.1 i hi
  unfold okt at hok
  have hv24 := hok.2.2.1 (Or.inr (Or.inl ek))
  obtain ⟨v, hv⟩ : ∃ v : Nat, fg E s f i % 1000 = (v : Int) := ⟨(fg E s f i % 1000).toNat, by omega⟩
  have ho : opB (fg E s f i / 1000) = true := op_call (Or.inl ek)
  have p1 := post_touch (post_at h (fE (fg E s f) (fn E s f) i)) (f' := f) (i' := i) hf ho
  have key : ∀ {C' : Cd} {s' : ASt} {a : List Int}, fX1_giveCall (b + 1) (some (b + 333 + r)) (i : Int) (v : Int) (cSetI C 902 (b + 333 + r) (fE (fg E s f) (fn E s f) i : Int)) = some ((), C') → Post b (cSetI C 902 (b + 333 + r) (fE (fg E s f) (fn E s f) i : Int)) C' E VA up (uPs s f i 2) s' r f ra (fE (fg E s f) (fn E s f) i) e a → ∃ C', fX1_stepOn (b + 1) (some (b + 333 + r)) C = some ((), C') ∧ Post b C C' E VA up s s' r f ra (fE (fg E s f) (fn E s f) i + 1) e a := by
    intro C' s' a e1 q
    have e902 := pre_at q.pre
    rw [← hv] at e1
    refine ⟨_, step_call h.1.1 h.2.2.2.2.1 hF.1 (h.1.stl hf) hi ek e1 (q.1.1.uo h.2.2.2.2.1.1), ?_⟩
    rw [e902]
    exact (p1.tr q).tr (post_at q.pre (fE (fg E s f) (fn E s f) i + 1))
  obtain ⟨a1, a2, a3, a4⟩ := X1_giveCall_no p1.pre hEn hf (v := v) (by omega) (i : Int)
  rw [hv, Int.toNat_natCast]
  refine ⟨fun c => ?_, fun c c1 => ?_, fun c c1 c2 => ?_, fun c c1 c2 c3 => ?_⟩
  · obtain ⟨C', e1, q⟩ := a1 c
    exact key e1 q
  · obtain ⟨C', e1, q⟩ := a2 c c1
    exact key e1 q
  · obtain ⟨C', e1, q⟩ := a3 c c1 ((cmF_uPs _ _ _ _ _ _ _).trans c2)
    exact key e1 q
  · obtain ⟨C', e1, q⟩ := a4 c c1 ((cmF_uPs _ _ _ _ _ _ _).trans c2) c3
    exact key e1 q
/-- a CALL with a frame -/
theorem seg_call_new (h : Pre b C E VA up s r f ra i e acc) (hEn : EnP E) (hf : f < aNf s) (hi : i < fn E s f) (ek : fg E s f i / 1000 = 2) (c40 : aCa s < 40) (hne : (wayF E 5 (fg E s f i % 1000).toNat 0).1 ≠ -1) (hcm : cmF s 41 f (wayF E 5 (fg E s f i % 1000).toNat 0).1 = false) (hd6 : (aFr s f).2.2.1 < 6) (hr : r < 511) :
   ∃ C', fX1_stepOn (b + 1) (some (b + 333 + r)) C = some ((), C') ∧ Sub b C C' E VA up s (uFr (uSe (uCa (uPs s f i 2)) 0 0 (wayF E 5 (fg E s f i % 1000).toNat 0).2 0 0) (nFr E s f i (wayF E 5 (fg E s f i % 1000).toNat 0).1)) r f ra (fE (fg E s f) (fn E s f) i + 1) e acc (aNf s) ra 0 (eTl E (eSn E (wayF E 5 (fg E s f i % 1000).toNat 0).1.toNat).toNat) acc := by
  have hF := (h.1.2.2.1 f hf).1
  have hok := (h.1.2.2.2.1 f hf).2.2.1 i hi
  unfold okt at hok
  have hv24 := hok.2.2.1 (Or.inr (Or.inl ek))
  obtain ⟨v, hv⟩ : ∃ v : Nat, fg E s f i % 1000 = (v : Int) := ⟨(fg E s f i % 1000).toNat, by omega⟩
  have ho : opB (fg E s f i / 1000) = true := op_call (Or.inl ek)
  have p1 := post_touch (post_at h (fE (fg E s f) (fn E s f) i)) (f' := f) (i' := i) hf ho
  rw [hv, Int.toNat_natCast] at hne hcm ⊢
  obtain ⟨C', e1, q⟩ := X1_giveCall_new p1.pre hEn hf (v := v) (by omega) (at_ := i) hi c40 hne ((cmF_uPs _ _ _ _ _ _ _).trans hcm) hd6 hr
  have e902 := q.2.1.2.2.2.2
  rw [← hv] at e1
  have hs := step_call h.1.1 h.2.2.2.2.1 hF.1 (h.1.stl hf) hi ek e1 (q.1.1.1.uo h.2.2.2.2.1.1)
  rw [e902] at hs
  refine ⟨_, hs, ?_⟩
  have q2 := sub_at q (fE (fg E s f) (fn E s f) i + 1)
  obtain ⟨z1, z2, z3, z4, z5, z6, z7⟩ := q2
  exact ⟨z1, z2, z3, z4, z5, p1.2.2.2.2.2.2.tr z6, fun _ _ hne => hne⟩
end SEGC
