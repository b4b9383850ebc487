/-! THE LAW'S RENDERING: a step of its loop -/
/-- the titles of the frames, from the last down -/
def SkT (E : Rw) : List Nat → Prop
  | [] => True
  | x :: l => E 14 l.length = (x : Int) ∧ SkT E l
theorem SkT.mem {E : Rw} {x : Nat} : ∀ {ts : List Nat}, SkT E ts → (x ∈ ts ↔ ∃ j, j < ts.length ∧ E 14 j = (x : Int)) := by
  intro ts
  induction ts with
  | nil => intro _; exact ⟨fun z => absurd z (by simp), fun ⟨j, z, _⟩ => absurd z (Nat.not_lt_zero _)⟩
  | cons y l ih =>
    intro h
    obtain ⟨h1, h2⟩ := h
    rw [List.mem_cons, ih h2, List.length_cons]
    constructor
    · rintro (e | ⟨j, j1, j2⟩)
      · exact ⟨l.length, Nat.lt_succ_self _, by rw [h1, e]⟩
      · exact ⟨j, by omega, j2⟩
    · rintro ⟨j, j1, j2⟩
      by_cases e : j = l.length
      · subst e
        rw [h1] at j2
        exact Or.inl (by omega)
      · exact Or.inr ⟨j, by omega, j2⟩
theorem SkT.same {E E' : Rw} : ∀ {ts : List Nat}, SkT E ts → (∀ j, j < ts.length → E' 14 j = E 14 j) → SkT E' ts := by
  intro ts
  induction ts with
  | nil => intro _ _; exact trivial
  | cons y l ih =>
    intro h e
    exact ⟨(e _ (Nat.lt_succ_self _)).trans h.1, ih h.2 (fun j hj => e j (Nat.lt_succ_of_lt hj))⟩
/-- the frame of the stack's top at depth d: its version, its place -/
def Top (N : Nat) (T : Nat → List Nat) (E : Rw) (d v k : Nat) : Prop := d ≤ 6 ∧ v < N ∧ E 12 d = (v : Int) ∧ E 13 d = (k : Int) ∧ k ≤ (T v).length
section REN
variable {N kz w c n d v k : Nat} {E : Rw} {G : Md} {T : Nat → List Nat} {En : Env} {A : MSt} {ts : List Nat} {L : Int → Int → Rw → Option (Int × Rw)}
/-- the row's end: back to the frame below -/
theorem R_end (hL : LRw N G T E) (ht : Top N T E d v k) (hk : k = (T v).length) (x : Int) : fW_renders_70 kz L x (d : Int) E = L x ((d : Int) + -1) E := by
  obtain ⟨h1, h2, h3, h4, h5⟩ := ht
  have h32 := hL.1.2.1
  obtain ⟨t1, t2, t3, t4, t5⟩ := hL.2.2.1 v h2
  have tm := t2.tm (by omega)
  unfold fW_renders_70
  rw [if_neg (by rw [w32_n (by omega)]; omega), if_pos (inWn 8 wl_13 (by omega) (by decide)), if_pos (inWn 8 wl_12 (by omega) (by decide)), ix_n (by omega), h3, if_pos (inWn 32 wl_3 (by omega) (by decide)), ix_n (n := v) (by omega), t1, cal1_of (W_macros tm), h4, hk, if_neg (fun z => z rfl)]
/-- a macro is come to -/
theorem R_mac (hL : LRw N G T E) (ht : Top N T E d v k) (hk : k < (T v).length) (x : Int) : ∃ m, m = (T v).getD k 0 ∧ okM m ∧ fW_renders_70 kz L x (d : Int) E = (if w32 ((m % 16 : Nat) : Int) = w32 2 then
    if inR 5 (wLen kz) then
    if ¬ w32 (wPut E 13 d ((k + 1 : Nat) : Int) kz (ix 5)) = w32 40 then
    if inR 5 (wLen kz) then
    if inR 5 (wLen kz) then bnd (wPut (wPut E 13 d ((k + 1 : Nat) : Int)) kz (ix 5) ((wPut E 13 d ((k + 1 : Nat) : Int) kz (ix 5)) + 1)) fun (E10 : Rw) =>
    cal1 (fW_way kz ((m / 16 : Nat) : Int) E10) fun (r11 : Int) (E12 : Rw) =>
    bnd (lpn (fun (_ : Int) (_ : Int) (_ : Rw) => (none : Option (Int × Rw))) (fun L217 (v15_217 : Int) (v16_217 : Int) (E_217 : Rw) =>
    fW_renders_217 kz x (d : Int) (m : Int) (fun (v10_359 : Int) (v12_359 : Int) (E_359 : Rw) => L v10_359 v12_359 E_359) r11 L217 v15_217 v16_217 E_217) FU) fun J217 =>
    J217 0 0 E12
    else none
    else none
    else
    cal1 (fW_comes kz x 9003 (wPut E 13 d ((k + 1 : Nat) : Int))) fun (r23 : Int) (E24 : Rw) => L r23 (d : Int) E24
    else none
    else
    cal1 (fW_gives kz x ((m % 16 : Nat) : Int) ((m / 16 : Nat) : Int) (d : Int) (wPut E 13 d ((k + 1 : Nat) : Int))) fun (r25 : Int) (E26 : Rw) => L r25 (d : Int) E26) := by
  obtain ⟨h1, h2, h3, h4, h5⟩ := ht
  have h32 := hL.1.2.1
  obtain ⟨t1, t2, t3, t4, t5⟩ := hL.2.2.1 v h2
  have tm := t2.tm (by omega)
  have ok := t2.1 _ (getD_mm hk)
  refine ⟨_, rfl, ok, ?_⟩
  have ml := ok.lt
  unfold fW_renders_70 fW_renders_359
  rw [if_neg (by rw [w32_n (by omega)]; omega), if_pos (inWn 8 wl_13 (by omega) (by decide)), if_pos (inWn 8 wl_12 (by omega) (by decide)), ix_n (n := d) (by omega), h3, if_pos (inWn 32 wl_3 (by omega) (by decide)), ix_n (n := v) (by omega), t1, cal1_of (W_macros tm), h4, if_pos (by rw [w32_n (by omega), w32_n (by omega)]; omega), if_pos (inWn 8 wl_12 (by omega) (by decide)), if_pos (inWn 32 wl_3 (by omega) (by decide)), if_pos (inWn 8 wl_13 (by omega) (by decide)), cal1_of (W_macro tm hk), if_pos (inWn 8 wl_13 (by omega) (by decide)), if_pos (inWn 8 wl_13 (by omega) (by decide)), bnd_eq, bnd_eq, rem16 ml, div16 ml, show ((k : Int) + 1) = ((k + 1 : Nat) : Int) by omega]
/-- what a step without a new frame leaves -/
def StF (kz d k : Nat) (E E1 : Rw) : Prop := (∀ r, r ≠ kz → r ≠ 13 → E1 r = E r) ∧ E1 13 d = ((k + 1 : Nat) : Int) ∧ ∀ j, j ≠ d → E1 13 j = E 13 j
/-- what a new frame leaves -/
def StN (kz d k v1 w1 : Nat) (E E1 : Rw) : Prop := (∀ r, r ≠ kz → r ≠ 12 → r ≠ 13 → r ≠ 14 → E1 r = E r) ∧ (E1 13 d = ((k + 1 : Nat) : Int) ∧ E1 13 (d + 1) = 0 ∧ ∀ j, j ≠ d → j ≠ d + 1 → E1 13 j = E 13 j) ∧ (E1 12 (d + 1) = (v1 : Int) ∧ ∀ j, j ≠ d + 1 → E1 12 j = E 12 j) ∧ E1 14 (d + 1) = (w1 : Int) ∧ ∀ j, j ≠ d + 1 → E1 14 j = E 14 j
theorem StF.of {E2 : Rw} (hz : kz = 10 ∨ kz = 11) (h : ∀ r, r ≠ kz → E2 r = wPut E 13 d ((k + 1 : Nat) : Int) r) : StF kz d k E E2 := by
  refine ⟨fun r h1 h2 => (h r h1).trans (wPk _ _ h2), ?_, fun j hj => ?_⟩
  · rw [h 13 (by omega), wP1]
  · rw [h 13 (by omega), wP2 _ _ (Or.inr hj)]
theorem LEn.tm (hL : LRw N G T E) (hE : LEn N G T En) : EnT En T := by
  obtain ⟨h1, h2, h3, h4⟩ := hE
  intro t ht hne
  have rg := prAt_lt (N := N) hL.2.1 ht
  rw [h1 t ht] at hne ⊢
  have hv : (prAt G N t).toNat < N := by omega
  obtain ⟨t1, t2, t3, t4, t5⟩ := hL.2.2.1 _ hv
  refine ⟨t2, t3, h3 _ hv, fun p hp => ?_⟩
  rw [h2]
  exact t5 p hp
/-- a macro that isn't a CALL -/
theorem R_plain (hz : kz = 10 ∨ kz = 11) (hL : LRw N G T E) (hE : LEn N G T En) (ht : Top N T E d v k) (hk : k < (T v).length) (hZ : ZR kz w c E A) (hw : w < 150) (hc : c < 90000) (hn : n + d = 6) (h2 : (T v).getD k 0 % 16 ≠ 2) (rec : List Nat → List Nat → MSt → MSt) : ∃ E1 c1, fW_renders_70 kz L (digF A.1) (d : Int) E = L (digF (mSK En T n rec ts A ((T v).getD k 0 % 16) ((T v).getD k 0 / 16)).1) (d : Int) E1 ∧ c1 ≤ c + 8 ∧ ZR kz w c1 E1 (mSK En T n rec ts A ((T v).getD k 0 % 16) ((T v).getD k 0 / 16)) ∧ StF kz d k E E1 := by
  obtain ⟨m, hm, ok, e⟩ := R_mac (kz := kz) (L := L) hL ht hk (digF A.1)
  rw [← hm] at h2 ⊢
  have hL2 : LRw N G T (wPut E 13 d ((k + 1 : Nat) : Int)) := hL.row (fun r hr => wPk _ _ (by omega))
  obtain ⟨E1, c1, q1, q2, q3, q4⟩ := W_gives hz hL2 hE (hZ.row (wPk _ _ (by omega))) hw hc hn ok.1 h2 ok.v60 (fun a b c => ok.2.2.2 a b c) rec ts
  rw [e, if_neg (by rw [w32_n (by omega), show w32 2 = 2 from rfl]; omega), cal1_of q1]
  exact ⟨E1, c1, rfl, q2, q3, StF.of hz q4⟩
/-- the titles on the stack are gone through -/
theorem R_among (r11 : Int) (E12 : Rw) (F : Bool → Option (Int × Rw)) (hd : d ≤ 6) {x m : Int} {J : Int → Int → Rw → Option (Int × Rw)} (hr : -1 ≤ r11 ∧ r11 < 8) (h14 : ∀ j, j ≤ d → 0 ≤ E12 14 j ∧ E12 14 j < 8)
    (hend : ∀ (L : Int → Int → Rw → Option (Int × Rw)) (b : Bool), fW_renders_217 kz x (d : Int) m J r11 L (if b = true then 1 else 0) ((d + 1 : Nat) : Int) E12 = F b) :
    ∃ bb : Bool, (bb = true ↔ ∃ j, j ≤ d ∧ E12 14 j = r11) ∧ lpn (fun (_ : Int) (_ : Int) (_ : Rw) => (none : Option (Int × Rw))) (fun L217 (v15_217 : Int) (v16_217 : Int) (E_217 : Rw) => fW_renders_217 kz x (d : Int) m J r11 L217 v15_217 v16_217 E_217) FU 0 0 E12 = F bb := by
  have key := lpn_rule (z := fun (_ : Int) (_ : Int) (_ : Rw) => (none : Option (Int × Rw))) (body := fun L217 (v15_217 : Int) (v16_217 : Int) (E_217 : Rw) => fW_renders_217 kz x (d : Int) m J r11 L217 v15_217 v16_217 E_217) (fun mm L => ∀ (b : Bool) (i : Nat), i ≤ d + 1 → d + 1 - i < mm → ∃ bb : Bool, (bb = true ↔ (b = true ∨ ∃ j, i ≤ j ∧ j ≤ d ∧ E12 14 j = r11)) ∧ L (if b = true then 1 else 0) (i : Int) E12 = F bb) (fun b i _ h => absurd h (Nat.not_lt_zero _)) (fun mm L hLL b i hi hm => ?_) FU false 0 (Nat.zero_le _) (by unfold FU; omega)
  · rw [if_neg (by decide)] at key
    obtain ⟨bb, k1, k2⟩ := key
    refine ⟨bb, ⟨fun z => ?_, fun ⟨j, j2, j3⟩ => k1.mpr (Or.inr ⟨j, Nat.zero_le _, j2, j3⟩)⟩, k2⟩
    rcases k1.mp z with y | ⟨j, _, j2, j3⟩
    · cases y
    · exact ⟨j, j2, j3⟩
  · dsimp only
    rcases Nat.lt_or_ge i (d + 1) with hlt | hge
    · have ei : ((i : Int) + 1) = ((i + 1 : Nat) : Int) := by omega
      obtain ⟨g1, g2⟩ := h14 i (by omega)
      unfold fW_renders_217 fW_renders_244 fW_renders_239
      rw [if_neg (by rw [w32_n (by omega), w32_n (by omega)]; omega), bnd_eq, bnd_eq, ei]
      cases b with
      | true =>
        obtain ⟨bb, k1, k2⟩ := hLL true (i + 1) (by omega) (by omega)
        rw [if_pos rfl] at k2
        rw [if_pos (show ¬ w32 (if true = true then (1 : Int) else 0) = 0 by decide)]
        exact ⟨bb, ⟨fun _ => Or.inl rfl, fun _ => k1.mpr (Or.inl rfl)⟩, k2⟩
      | false =>
        rw [if_neg (show ¬ ¬ w32 (if false = true then (1 : Int) else 0) = 0 by decide), if_pos (inWn 8 wl_14 (by omega) (by decide)), ix_n (n := i) (by omega)]
        by_cases e : E12 14 i = r11
        · rw [if_neg (by rw [e]; exact fun z => z rfl)]
          obtain ⟨bb, k1, k2⟩ := hLL true (i + 1) (by omega) (by omega)
          rw [if_pos rfl] at k2
          exact ⟨bb, ⟨fun _ => Or.inr ⟨i, Nat.le_refl _, by omega, e⟩, fun _ => k1.mpr (Or.inl rfl)⟩, k2⟩
        · rw [if_pos (by rw [w32_of (by omega) (by omega), w32_of (by omega) (by omega)]; exact e)]
          obtain ⟨bb, k1, k2⟩ := hLL false (i + 1) (by omega) (by omega)
          rw [if_neg (by decide)] at k2
          refine ⟨bb, ⟨fun z => ?_, fun z => k1.mpr ?_⟩, k2⟩
          · rcases k1.mp z with y | ⟨j, j1, j2, j3⟩
            · cases y
            · exact Or.inr ⟨j, by omega, j2, j3⟩
          · rcases z with y | ⟨j, j1, j2, j3⟩
            · cases y
            · refine Or.inr ⟨j, ?_, j2, j3⟩
              by_cases z : j = i
              · subst z; exact absurd j3 e
              · omega
    · have e : i = d + 1 := by omega
      subst e
      refine ⟨b, ⟨fun z => Or.inl z, fun z => z.elim (fun y => y) (fun ⟨j, j1, j2, _⟩ => absurd j1 (by omega))⟩, hend L b⟩
/-- a CALL -/
theorem R_call (hz : kz = 10 ∨ kz = 11) (hL : LRw N G T E) (hE : LEn N G T En) (ht : Top N T E d v k) (hk : k < (T v).length) (hZ : ZR kz w c E A) (hw : w < 150) (hc : c < 90000) (hn : n + d = 6) (h2 : (T v).getD k 0 % 16 = 2) (hS : SkT E ts) (hl : ts.length = d + 1) (h8 : ∀ j, j ≤ d → 0 ≤ E 14 j ∧ E 14 j < 8) (rec : List Nat → List Nat → MSt → MSt) :
    (∃ E1 c1, fW_renders_70 kz L (digF A.1) (d : Int) E = L (digF (mSK En T n rec ts A ((T v).getD k 0 % 16) ((T v).getD k 0 / 16)).1) (d : Int) E1 ∧ c1 ≤ c + 8 ∧ ZR kz w c1 E1 (mSK En T n rec ts A ((T v).getD k 0 % 16) ((T v).getD k 0 / 16)) ∧ StF kz d k E E1 ∧ A.2.1 ≤ (mSK En T n rec ts A ((T v).getD k 0 % 16) ((T v).getD k 0 / 16)).2.1) ∨
    (∃ E1 v1 w1 A1, n ≠ 0 ∧ fW_renders_70 kz L (digF A.1) (d : Int) E = L (digF A.1) ((d + 1 : Nat) : Int) E1 ∧ ZR kz w c E1 A1 ∧ A1.1 = A.1 ∧ A1.2.1 = A.2.1 + 1 ∧ v1 < N ∧ w1 < 8 ∧ StN kz d k v1 w1 E E1 ∧ mSK En T n rec ts A ((T v).getD k 0 % 16) ((T v).getD k 0 / 16) = rec (w1 :: ts) (T v1) A1) := by
  obtain ⟨m, hm, ok, e⟩ := R_mac (kz := kz) (L := L) hL ht hk (digF A.1)
  rw [← hm] at h2 ⊢
  have v8 := ok.2.2.2 (by omega) (by omega) (by omega)
  have ml := ok.lt
  have k12 : (12 : Nat) ≠ kz := by omega
  have k13 : (13 : Nat) ≠ kz := by omega
  have k14 : (14 : Nat) ≠ kz := by omega
  obtain ⟨hd, hvN, -⟩ := ht
  have hL2 : LRw N G T (wPut E 13 d ((k + 1 : Nat) : Int)) := hL.row (fun r hr => wPk _ _ (by omega))
  have hZ2 : ZR kz w c (wPut E 13 d ((k + 1 : Nat) : Int)) A := hZ.row (wPk _ _ (by omega))
  have i5 : inR 5 (wLen kz) := inZ (i := 5) hz (by decide)
  have i0 : inR 0 (wLen kz) := inZ (i := 0) hz (by decide)
  have c5 := hZ2.2.2.2.2.2.1
  rw [e, h2, if_pos (show w32 ((2 : Nat) : Int) = w32 2 from rfl), if_pos i5, show ix 5 = 5 from rfl, c5.1]
  by_cases d1 : 40 ≤ A.2.1
  · obtain ⟨E1, q1, q2, q3⟩ := W_comes hz hZ2 hw (by omega) 9003
    have goal : mSK En T n rec ts A 2 (m / 16) = (apl A.1 9003, A.2) := by
      unfold mSK
      rw [if_pos rfl, if_pos d1]
    refine Or.inl ⟨E1, c + 1, ?_, by omega, ?_, StF.of hz q3, ?_⟩
    · rw [if_neg (by rw [w32_n (by omega), show w32 40 = 40 from rfl]; omega), cal1_of q1, goal]
    · rw [goal]; exact q2
    · rw [goal]; exact Nat.le_refl _
  · rw [if_pos (by rw [w32_n (by omega), show w32 40 = 40 from rfl]; omega), if_pos i5, if_pos i5, bnd_eq, show ((A.2.1 : Int) + 1) = ((A.2.1 + 1 : Nat) : Int) by omega]
    have hZ3 := hZ2.ca (x := A.2.1 + 1) (by omega)
    have hL3 : LRw N G T (wPut (wPut E 13 d ((k + 1 : Nat) : Int)) kz 5 ((A.2.1 + 1 : Nat) : Int)) := hL2.row (fun r hr => wPk _ _ (by omega))
    obtain ⟨z1, y1⟩ := hZ3.2.1
    obtain ⟨S', s1, s2, s3, s4⟩ := W_way hz hL3.1 hL3.2.1 hL3.2.2.1 hE.1 hE.2.1 v8 y1 z1
    have wo := wayF_or En A.2.2.2.2.1 5 (m / 16) 0
    rw [Nat.or_zero] at wo
    have s1' : S' = A.2.2.2.2.1 ||| (wayF En 5 (m / 16) 0).2 := by
      rw [← s1]
      show (wayF En 5 (m / 16) A.2.2.2.2.1).2 = _
      rw [wo]
    have s3' : fW_way kz ((m / 16 : Nat) : Int) (wPut (wPut E 13 d ((k + 1 : Nat) : Int)) kz 5 ((A.2.1 + 1 : Nat) : Int)) = some ((wayF En 5 (m / 16) 0).1, wPut (wPut (wPut E 13 d ((k + 1 : Nat) : Int)) kz 5 ((A.2.1 + 1 : Nat) : Int)) kz 1 (S' : Int)) := by
      rw [s3]
      show some ((wayF En 5 (m / 16) A.2.2.2.2.1).1, _) = _
      rw [wo]
    have s4' : (wayF En 5 (m / 16) 0).1 = -1 ∨ (0 ≤ (wayF En 5 (m / 16) 0).1 ∧ (wayF En 5 (m / 16) 0).1 < 8 ∧ prAt G N (wayF En 5 (m / 16) 0).1.toNat ≠ -1) := by
      have z := s4
      rw [show (wayF En 5 (m / 16) (A.1, A.2.1 + 1, A.2.2).2.2.2.2.1).1 = (wayF En 5 (m / 16) 0).1 from by show (wayF En 5 (m / 16) A.2.2.2.2.1).1 = _; rw [wo]] at z
      exact z
    rw [cal1_of s3', bnd_eq]
    have hZ4 := hZ3.rd s2
    have rows4 : ∀ r, r ≠ kz → wPut (wPut (wPut E 13 d ((k + 1 : Nat) : Int)) kz 5 ((A.2.1 + 1 : Nat) : Int)) kz 1 (S' : Int) r = wPut E 13 d ((k + 1 : Nat) : Int) r := fun r hr => by rw [wPk _ _ hr, wPk _ _ hr]
    have hL4 : LRw N G T (wPut (wPut (wPut E 13 d ((k + 1 : Nat) : Int)) kz 5 ((A.2.1 + 1 : Nat) : Int)) kz 1 (S' : Int)) := hL3.row (fun r hr => wPk _ _ (by omega))
    generalize hE4 : wPut (wPut (wPut E 13 d ((k + 1 : Nat) : Int)) kz 5 ((A.2.1 + 1 : Nat) : Int)) kz 1 (S' : Int) = E4 at *
    have e14 : ∀ j, E4 14 j = E 14 j := fun j => by rw [rows4 14 (by omega), wPk _ _ (by omega)]
    have hW8 : -1 ≤ (wayF En 5 (m / 16) 0).1 ∧ (wayF En 5 (m / 16) 0).1 < 8 := by omega
    obtain ⟨bb, hbb, hR⟩ := R_among (kz := kz) (d := d) (x := digF A.1) (m := (m : Int)) (J := fun (v10_359 : Int) (v12_359 : Int) (E_359 : Rw) => L v10_359 v12_359 E_359) (wayF En 5 (m / 16) 0).1 E4 (fun b => fW_renders_217 kz (digF A.1) (d : Int) (m : Int) (fun (v10_359 : Int) (v12_359 : Int) (E_359 : Rw) => L v10_359 v12_359 E_359) (wayF En 5 (m / 16) 0).1 (fun _ _ _ => none) (if b = true then 1 else 0) ((d + 1 : Nat) : Int) E4) hd hW8 (fun j hj => by rw [e14 j]; exact h8 j hj) (fun L2 b => by
      unfold fW_renders_217
      have lt : w32 (d : Int) < w32 ((d + 1 : Nat) : Int) := by rw [w32_n (by omega), w32_n (by omega)]; omega
      rw [if_pos lt, if_pos lt])
    rw [hR]
    (try dsimp only)
    unfold fW_renders_217
    rw [if_pos (by rw [w32_n (by omega), w32_n (by omega)]; omega)]
    rcases s4' with g | ⟨g1, g2, g3⟩
    · obtain ⟨b1, b2⟩ := hZ4.bit (j := 0) (a := m / 16) (by decide) v8 hZ4.1.1 hZ4.1.2
      obtain ⟨E1, q1, q2, q3⟩ := W_comes hz (hZ4.lk b2) hw (by omega) (2000 + ((m / 16 : Nat) : Int))
      have goal : mSK En T n rec ts A 2 (m / 16) = (apl A.1 (2000 + ((m / 16 : Nat) : Int)), A.2.1 + 1, A.2.2.1 ||| 2 ^ (m / 16), A.2.2.2.1, A.2.2.2.2.1 ||| (wayF En 5 (m / 16) 0).2, A.2.2.2.2.2) := by
        unfold mSK
        rw [if_pos rfl, if_neg d1, if_pos g]
      refine Or.inl ⟨E1, c + 1, ?_, by omega, ?_, StF.of hz (fun r hr => ?_), ?_⟩
      · rw [g, if_neg (by decide), if_pos i0, if_pos i0, show ix 0 = 0 from rfl, div16 ml, b1, bnd_eq, cal1_of q1, goal]
      · rw [goal, ← s1']; exact q2
      · rw [q3 r hr, wPk _ _ hr]; exact rows4 r hr
      · rw [goal]; exact Nat.le_succ _
    · obtain ⟨w1, hw1⟩ : ∃ w1 : Nat, (wayF En 5 (m / 16) 0).1 = (w1 : Int) := ⟨(wayF En 5 (m / 16) 0).1.toNat, by omega⟩
      have w8 : w1 < 8 := by omega
      rw [hw1] at g3 hbb ⊢
      rw [show ((w1 : Nat) : Int).toNat = w1 from rfl] at g3
      have mem : (∃ j, j ≤ d ∧ E4 14 j = (w1 : Int)) ↔ w1 ∈ ts := by
        rw [hS.mem, hl]
        constructor
        · rintro ⟨j, j1, j2⟩
          exact ⟨j, by omega, by rw [← e14 j]; exact j2⟩
        · rintro ⟨j, j1, j2⟩
          exact ⟨j, by omega, by rw [e14 j]; exact j2⟩
      rw [if_pos (by rw [w32_n (by omega)]; omega), bnd_eq]
      unfold fW_renders_304 fW_renders_322
      dsimp only
      by_cases g4 : w1 ∈ ts
      · obtain ⟨E1, q1, q2, q3⟩ := W_comes hz hZ4 hw (by omega) 9001
        have goal : mSK En T n rec ts A 2 (m / 16) = (apl A.1 9001, A.2.1 + 1, A.2.2.1, A.2.2.2.1, A.2.2.2.2.1 ||| (wayF En 5 (m / 16) 0).2, A.2.2.2.2.2) := by
          unfold mSK
          rw [if_pos rfl, if_neg d1, hw1, if_neg (by omega), show ((w1 : Nat) : Int).toNat = w1 from rfl, if_pos g4]
        refine Or.inl ⟨E1, c + 1, ?_, by omega, ?_, StF.of hz (fun r hr => (q3 r hr).trans (rows4 r hr)), ?_⟩
        · rw [hbb.mpr (mem.mpr g4), if_pos (show true = true from rfl), if_pos (by decide), bnd_eq, if_neg (by decide)]
          dsimp only
          rw [cal1_of q1, goal]
        · rw [goal, ← s1']; exact q2
        · rw [goal]; exact Nat.le_succ _
      · rw [Bool.eq_false_iff.mpr (fun z => g4 (mem.mp (hbb.mp z))), if_neg (show ¬ false = true by decide), if_neg (show ¬ ¬ w32 0 = 0 by decide)]
        by_cases g5 : n = 0
        · obtain ⟨E1, q1, q2, q3⟩ := W_comes hz hZ4 hw (by omega) 9002
          have goal : mSK En T n rec ts A 2 (m / 16) = (apl A.1 9002, A.2.1 + 1, A.2.2.1, A.2.2.2.1, A.2.2.2.2.1 ||| (wayF En 5 (m / 16) 0).2, A.2.2.2.2.2) := by
            unfold mSK
            rw [if_pos rfl, if_neg d1, hw1, if_neg (by omega), show ((w1 : Nat) : Int).toNat = w1 from rfl, if_neg g4, if_pos g5]
          refine Or.inl ⟨E1, c + 1, ?_, by omega, ?_, StF.of hz (fun r hr => (q3 r hr).trans (rows4 r hr)), ?_⟩
          · rw [if_neg (by rw [w32_n (by omega), show w32 6 = 6 from rfl]; omega), bnd_eq, if_pos (by decide)]
            dsimp only
            rw [cal1_of q1, goal]
          · rw [goal, ← s1']; exact q2
          · rw [goal]; exact Nat.le_succ _
        · have goal : mSK En T n rec ts A 2 (m / 16) = rec (w1 :: ts) (T (prAt G N w1).toNat) (A.1, A.2.1 + 1, A.2.2.1, A.2.2.2.1, A.2.2.2.2.1 ||| (wayF En 5 (m / 16) 0).2, A.2.2.2.2.2) := by
            unfold mSK
            rw [if_pos rfl, if_neg d1, hw1, if_neg (by omega), show ((w1 : Nat) : Int).toNat = w1 from rfl, if_neg g4, if_neg g5, hE.1 w1 w8]
          have rg := (prAt_lt (N := N) hL.2.1 w8).resolve_left g3
          have i12 : inR ((d : Int) + 1) (wLen 12) := inW 8 wl_12 (by omega) (by omega) (by decide)
          have i13 : inR ((d : Int) + 1) (wLen 13) := inW 8 wl_13 (by omega) (by omega) (by decide)
          have i14 : inR ((d : Int) + 1) (wLen 14) := inW 8 wl_14 (by omega) (by omega) (by decide)
          refine Or.inr ⟨wPut (wPut (wPut E4 12 (d + 1) (prAt G N w1)) 13 (d + 1) 0) 14 (d + 1) (w1 : Int), (prAt G N w1).toNat, w1, (A.1, A.2.1 + 1, A.2.2.1, A.2.2.2.1, A.2.2.2.2.1 ||| (wayF En 5 (m / 16) 0).2, A.2.2.2.2.2), g5, ?_, ?_, rfl, rfl, by omega, w8, ⟨fun r r1 r2 r3 r4 => ?_, ⟨?_, ?_, fun j j1 j2 => ?_⟩, ⟨?_, fun j j1 => ?_⟩, ?_, fun j j1 => ?_⟩, goal⟩
          · rw [if_pos (by rw [w32_n (by omega), show w32 6 = 6 from rfl]; omega), cal1_of (W_present hL4.1 hL4.2.1 w8), if_pos i12, bnd_eq, if_pos i13, bnd_eq, if_pos i14, bnd_eq, ixn (i := (d : Int) + 1) (n := d + 1) (by omega) (by omega), show ((d : Int) + 1) = ((d + 1 : Nat) : Int) by omega]
          · rw [← s1']
            exact hZ4.row (by rw [wPk _ _ k14.symm, wPk _ _ k13.symm, wPk _ _ k12.symm])
          · rw [wPk _ _ r4, wPk _ _ r3, wPk _ _ r2, rows4 r r1, wPk _ _ r3]
          · rw [wP2 _ _ (by omega), wP2 _ _ (by omega), wP2 _ _ (by omega), rows4 13 k13, wP1]
          · rw [wP2 _ _ (by omega), wP1]
          · rw [wP2 _ _ (by omega), wP2 _ _ (by omega), wP2 _ _ (by omega), rows4 13 k13, wP2 _ _ (by omega)]
          · rw [wP2 _ _ (by omega), wP2 _ _ (by omega), wP1]; omega
          · rw [wP2 _ _ (by omega), wP2 _ _ (by omega), wP2 _ _ (by omega), rows4 12 k12, wP2 _ _ (by omega)]
          · rw [wP1]
          · rw [wP2 _ _ (by omega), wP2 _ _ (by omega), wP2 _ _ (by omega), rows4 14 k14, wP2 _ _ (by omega)]
end REN
