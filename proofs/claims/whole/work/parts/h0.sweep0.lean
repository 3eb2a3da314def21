/-! GRAPH: the sweep as data and as what it means -/
/-- the nodes: pile, path, and what is told of the rows on the pile -/
def CEL (V : Ud) (ps ls : Nat) (pa pl ix lw cu ld : Nat → Nat) : Prop := (∀ i, i < ls → (V.2.2.1 147 10).2 (i * 7 + 6) = nI (pl i)) ∧ (∀ j, j < ps → (V.2.2.1 147 10).2 (j * 7 + 5) = nI (pa j)) ∧ ∀ i, i < ls → (V.2.2.1 147 10).2 (pl i * 7 + 1) = nI (ix (pl i)) ∧ (V.2.2.1 147 10).2 (pl i * 7 + 2) = nI (lw (pl i)) ∧ (V.2.2.1 147 10).2 (pl i * 7 + 3) = nI (cu (pl i)) ∧ (V.2.2.1 147 10).2 (pl i * 7 + 4) = nI (ld (pl i))
/-- a sweep under way -/
def SWS (V : Ud) (T R wn : Nat) (rx mb me : Nat → Nat) (ga gi gq : Nat) (RB : Nat → Nat → Prop) (A g0 : Nat → Prop) (ev nf : Nat) (FS : Nat → Nat → Bool) (en ps ls : Nat) (pa pl pp ix lw cu ld : Nat → Nat) (St Gd : Nat → Prop) (rk : Nat → Nat) (nr xr : Nat) : Prop :=
  (GRB V T R wn rx mb me ∧ LSN V ga gi gq 256 ∧ V.2.2.2.1 147 8 = some gq ∧ FST V nf T FS) ∧ (V.2.1 147 20 = nI ps ∧ V.2.1 147 21 = nI ls ∧ V.2.1 147 22 = nI en ∧ V.2.1 147 9 = nI ev ∧ ev ≤ 1) ∧
  ((∀ t, t < T → (bts (V.2.2.2.2.1 153) t = true ↔ A t)) ∧ (∀ t, A t → t < T) ∧ (∀ x t, RB x t → t < T) ∧ (∀ t, g0 t → t < T) ∧ ∀ s, s < 64 * wn → bts (V.2.2.2.2.1 150) s = true ∨ (ga = 0 ∧ gi = 148 ∧ bts (lgf V ga gi) s = true) → s < T) ∧
  (CEL V ps ls pa pl ix lw cu ld ∧ ∀ i, i < ls → lw (pl i) ≤ 20000 ∧ cu (pl i) ≤ T) ∧
  TJ RB A rx g0 (¬ ev = 0) nf (fun f t => FS f t = true) R (fun t => t < T ∧ bts (V.2.2.2.2.1 150) t = true) (fun t => t < T ∧ bts (V.2.2.2.2.1 151) t = true) (fun t => t < T ∧ bts (lgf V ga gi) t = true) ix lw cu ld pa pl pp en ps ls St Gd rk nr xr
/-- the row that is laid out -/
def ROW (V : Ud) (RB : Nat → Nat → Prop) (r bf bt : Nat) : Prop := BZ V bf bt ∧ ∀ t, t < 16384 → (bts (V.2.2.2.2.1 146) t = true ↔ RB r t)
/-- the cursor of what is unseen -/
def CUR (V : Ud) (wn : Nat) : Prop := ∃ c, V.2.1 147 16 = nI c ∧ c ≤ wn ∧ ∀ i, i < c → V.2.2.2.2.1 150 i = 0
def swok (F : Uf) : Bool := grok F && (!in2 F.a 147 10 && (!in2 F.i 147 20 && (!in2 F.i 147 21 && (!in2 F.i 147 22 && (!in2 F.i 147 9 && (!in2 F.n 147 8 && (!in1 F.l 153 && (!in1 F.l 150 && (!in1 F.l 151 && (!in1 F.l 148 && (!in1 F.l 162 && (!F.p && (!in2 F.i 99 19 && !in2 F.a 113 3)))))))))))))
section Sweep
variable {U V W : Ud} {T R wn ga gi gq ev nf en ps ls nr xr xr2 bf bt r p t0 lo ldv k c2 : Nat} {rx mb me pa pl pp ix lw cu ld rk : Nat → Nat} {RB : Nat → Nat → Prop} {A g0 St Gd : Nat → Prop} {FS : Nat → Nat → Bool} {F : Uf}
theorem CEL.same (h : CEL U ps ls pa pl ix lw cu ld) (e : V.2.2.1 147 10 = U.2.2.1 147 10) : CEL V ps ls pa pl ix lw cu ld := by
  unfold CEL at h ⊢
  rw [e]
  exact h
theorem SWS.keep (h : SWS U T R wn rx mb me ga gi gq RB A g0 ev nf FS en ps ls pa pl pp ix lw cu ld St Gd rk nr xr) (hq : uq F U V) (hF : swok F = true) (h161 : ∀ c, in2 F.n 161 c = false) (h163 : ∀ c, in2 F.n 163 c = false) : SWS V T R wn rx mb me ga gi gq RB A g0 ev nf FS en ps ls pa pl pp ix lw cu ld St Gd rk nr xr := by
  unfold swok at hF
  simp only [Bool.and_eq_true, Bool.not_eq_true'] at hF
  obtain ⟨f0, f1, f2', f3, f4, f5, f6, f7, f8, f9, f10, f11, f12, f13, f14⟩ := hF
  obtain ⟨⟨a1, a2, a3, a4⟩, ⟨b1, b2, b3, b4, b5⟩, ⟨c1, c2, c3, c4, c5⟩, ⟨d1, d2⟩, e1⟩ := h
  have ec := hq.a 147 10 f1
  have el := lsf_q a2 hq f10 f11 f12
  refine ⟨⟨a1.keep hq f0 (NK.of_eq ec), a2.q hq h161 h163 f12, (hq.r 147 8 f6).trans a3, a4.eq (hq.i 99 19 f13) (hq.a 113 3 f14) (fun c => by rw [hq.2.2.2.2.2 f12])⟩, ⟨(hq.i 147 20 f2').trans b1, (hq.i 147 21 f3).trans b2, (hq.i 147 22 f4).trans b3, (hq.i 147 9 f5).trans b4, b5⟩, ⟨?_, c2, c3, c4, ?_⟩, ⟨d1.same ec, d2⟩, ?_⟩
  · rw [hq.l 153 f7]; exact c1
  · rw [hq.l 150 f8, el]; exact c5
  · rw [hq.l 150 f8, hq.l 151 f9, el]; exact e1
theorem ROW.keep (h : ROW U RB r bf bt) (hq : uq F U V) (h1 : in2 F.i 129 19 = false) (h2 : in2 F.i 129 20 = false) (h3 : in1 F.l 146 = false) : ROW V RB r bf bt := ⟨h.1.q hq h1 h2 h3, by rw [hq.l 146 h3]; exact h.2⟩
theorem CUR.keep (h : CUR U wn) (hq : uq F U V) (h1 : in2 F.i 147 16 = false) (h2 : in1 F.l 150 = false) : CUR V wn := by
  obtain ⟨c, h3, h4, h5⟩ := h
  exact ⟨c, (hq.i 147 16 h1).trans h3, h4, by rw [hq.l 150 h2]; exact h5⟩
/-- what the methods ask of the pile -/
theorem SWS.pile (h : SWS U T R wn rx mb me ga gi gq RB A g0 ev nf FS en ps ls pa pl pp ix lw cu ld St Gd rk nr xr) : (en ≤ T + 1 ∧ ps ≤ T + 1 ∧ ls ≤ T + 1) ∧ (∀ i, i < ls → (U.2.2.1 147 10).2 (i * 7 + 6) = nI (pl i) ∧ pl i < R) ∧ (∀ i, i < ls → (U.2.2.1 147 10).2 (pl i * 7 + 1) = nI (ix (pl i)) ∧ ix (pl i) ≤ en) ∧ (∀ i j, i < ls → j < ls → pl i = pl j → i = j) := by
  obtain ⟨⟨a1, a2, a3, a4⟩, b, c, ⟨⟨d1, d1b, d1c⟩, d2⟩, e1⟩ := h
  obtain ⟨r1, r2, r3⟩ := e1.room
  have hRT := a1.2.2.1.1
  refine ⟨⟨by omega, by omega, by omega⟩, fun i hi => ⟨d1 i hi, (e1.2.1.1 i hi).1⟩, fun i hi => ⟨(d1c i hi).1, (e1.2.1.1 i hi).2.2.2⟩, fun i j hi hj he => e1.pinj hi hj he⟩
/-- a row is entered: from what the method tells -/
theorem SWS.enter (h : SWS U T R wn rx mb me ga gi gq RB A g0 ev nf FS en ps ls pa pl pp ix lw cu ld St Gd rk nr xr) (hxr : ∀ t, t < T → bts (U.2.2.2.2.1 150) t = true → rx t = xr → rx t = r) (hrow : ROW U RB r bf bt) (ht0 : t0 < T) (hu : bts (U.2.2.2.2.1 150) t0 = true) (hr : rx t0 = r) (he : ∀ j, j + 1 = ps → RT (EDG RB A rx) (pa j) r)
    (hq : uq F325 U V) (h22 : V.2.1 147 22 = nI (en + 1)) (h20 : V.2.1 147 20 = nI (ps + 1)) (h21 : V.2.1 147 21 = nI (ls + 1)) (hce : ∀ j, (V.2.2.1 147 10).2 j = if j = r * 7 + 2 then nI lo else if j = r * 7 + 4 then nI ldv else (if j = ls * 7 + 6 then nI r else if j = ps * 7 + 5 then nI r else if j = r * 7 + 3 then 0 else if j = r * 7 + 1 then nI (en + 1) else (U.2.2.1 147 10).2 j))
    (hun : (∀ t, t < T → (bts (V.2.2.2.2.1 150) t = true ↔ bts (U.2.2.2.2.1 150) t = true ∧ ¬ (bts (U.2.2.2.2.1 153) t = true ∧ rx t = r))) ∧ ∀ t, bts (V.2.2.2.2.1 150) t = true → bts (U.2.2.2.2.1 150) t = true)
    (hpi : ∀ t, t < T → (bts (V.2.2.2.2.1 151) t = true ↔ bts (U.2.2.2.2.1 151) t = true ∨ (bts (U.2.2.2.2.1 153) t = true ∧ rx t = r))) (hld : ldv < 4) (hl1 : ldv % 2 = 1 ↔ ∃ t, t < 16384 ∧ bts (U.2.2.2.2.1 146) t = true ∧ bts (lgf U ga gi) t = true) (hl2 : 2 ≤ ldv ↔ ∃ t, t < T ∧ bts (U.2.2.2.2.1 153) t = true ∧ rx t = r ∧ bts (U.2.2.2.2.1 146) t = true) (hlo : lo ≤ en + 1)
    (hmin : ∀ t, t < T → bts (U.2.2.2.2.1 146) t = true → bts (V.2.2.2.2.1 151) t = true → lo ≤ (if rx t = r then en + 1 else ix (rx t))) (hat : lo = en + 1 ∨ ∃ t, t < T ∧ bts (U.2.2.2.2.1 146) t = true ∧ bts (V.2.2.2.2.1 151) t = true ∧ (if rx t = r then en + 1 else ix (rx t)) = lo) :
    SWS V T R wn rx mb me ga gi gq RB A g0 ev nf FS (en + 1) (ps + 1) (ls + 1) (fun j => if j = ps then r else pa j) (fun i => if i = ls then r else pl i) (fun j => if j = ps then ls else pp j) (fun x => if x = r then en + 1 else ix x) (fun x => if x = r then lo else lw x) (fun x => if x = r then 0 else cu x) (fun x => if x = r then ldv else ld x) St Gd rk nr xr2 := by
  replace hl1 := HID.mk hl1
  replace hl2 := HID.mk hl2
  replace hat := HID.mk hat
  obtain ⟨⟨b1, b2, b3⟩, p1, p2, p3⟩ := h.pile
  obtain ⟨⟨a1, a2, a3, a4⟩, ⟨k1, k2, k3, k4, k5⟩, ⟨c1, c2, c3, c4, c5⟩, ⟨⟨d1, d1b, d1c⟩, d2⟩, e1⟩ := h
  have hTb := a1.1.2.2
  have hrR : r < R := by rw [← hr]; exact (a1.2.1.2 t0 ht0).2
  have hNK : NK U V := fun j hj => by rw [hce, if_neg (by omega), if_neg (by omega), if_neg (by omega), if_neg (by omega), if_neg (by omega), if_neg (by omega)]
  have el := lsf_q a2 hq rfl rfl rfl
  have hrn : ∀ i, i < ls → ¬ pl i = r := fun i hi z => ((e1.1.2.1 t0).mp ⟨ht0, hu⟩).2.2 ⟨i, hi, by rw [z, hr]⟩
  have hA : ∀ t, t < T → (bts (U.2.2.2.2.1 153) t = true ↔ A t) := c1
  have s1 : ∀ t, (t < T ∧ bts (V.2.2.2.2.1 150) t = true) ↔ (t < T ∧ bts (U.2.2.2.2.1 150) t = true) ∧ ¬ rx t = r := fun t => by
    constructor
    · rintro ⟨y1, y2⟩
      have := (hun.1 t y1).mp y2
      refine ⟨⟨y1, this.1⟩, fun z => this.2 ⟨?_, z⟩⟩
      exact (hA t y1).mpr ((e1.1.2.1 t).mp ⟨y1, this.1⟩).1
    · rintro ⟨⟨y1, y2⟩, y3⟩
      exact ⟨y1, (hun.1 t y1).mpr ⟨y2, fun z => y3 z.2⟩⟩
  have s2 : ∀ t, (t < T ∧ bts (V.2.2.2.2.1 151) t = true) ↔ (t < T ∧ bts (U.2.2.2.2.1 151) t = true) ∨ (A t ∧ rx t = r) := fun t => by
    constructor
    · rintro ⟨y1, y2⟩
      rcases (hpi t y1).mp y2 with z | z
      · exact Or.inl ⟨y1, z⟩
      · exact Or.inr ⟨(hA t y1).mp z.1, z.2⟩
    · rintro (⟨y1, y2⟩ | ⟨y1, y2⟩)
      · exact ⟨y1, (hpi t y1).mpr (Or.inl y2)⟩
      · exact ⟨c2 t y1, (hpi t (c2 t y1)).mpr (Or.inr ⟨(hA t (c2 t y1)).mpr y1, y2⟩)⟩
  have s3 : ldv % 2 = 1 ↔ ∃ t, RB r t ∧ (t < T ∧ bts (lgf U ga gi) t = true) := by
    rw [hl1.out]
    constructor
    · rintro ⟨t, y1, y2, y3⟩
      have := (hrow.2 t y1).mp y2
      exact ⟨t, this, c3 _ t this, y3⟩
    · rintro ⟨t, y1, y2, y3⟩
      exact ⟨t, by omega, (hrow.2 t (by omega)).mpr y1, y3⟩
  have s4 : 2 ≤ ldv ↔ ∃ t, A t ∧ rx t = r ∧ RB r t := by
    rw [hl2.out]
    constructor
    · rintro ⟨t, y1, y2, y3, y4⟩
      exact ⟨t, (hA t y1).mp y2, y3, (hrow.2 t (by omega)).mp y4⟩
    · rintro ⟨t, y1, y2, y3⟩
      have := c2 t y1
      exact ⟨t, this, (hA t this).mpr y1, y2, (hrow.2 t (by omega)).mpr y3⟩
  have s5 : ∀ t, RB r t → (t < T ∧ bts (V.2.2.2.2.1 151) t = true) → lo ≤ (if rx t = r then en + 1 else ix (rx t)) := by
    rintro t y1 ⟨y2, y3⟩
    exact hmin t y2 ((hrow.2 t (by omega)).mpr y1) y3
  have s6 : lo = en + 1 ∨ ∃ t, RB r t ∧ (t < T ∧ bts (V.2.2.2.2.1 151) t = true) ∧ (if rx t = r then en + 1 else ix (rx t)) = lo := by
    rcases hat.out with y | ⟨t, y1, y2, y3, y4⟩
    · exact Or.inl y
    · exact Or.inr ⟨t, (hrow.2 t (by omega)).mp y2, ⟨y1, y3⟩, y4⟩
  replace s3 := HID.mk s3
  replace s4 := HID.mk s4
  replace s6 := HID.mk s6
  have key := TJ.enter (un' := fun t => t < T ∧ bts (V.2.2.2.2.1 150) t = true) (pi' := fun t => t < T ∧ bts (V.2.2.2.2.1 151) t = true) (lo := lo) (ldv := ldv) (r := r) (t0 := t0) (xr2 := xr2) e1 (fun t y => hxr t y.1 y.2) ⟨ht0, hu⟩ hr hrR he s1 s2 hld s3.out s4.out hlo s5 s6.out
  obtain ⟨PL, hPL⟩ : ∃ y, y = (fun i => if i = ls then r else pl i) := ⟨_, rfl⟩
  obtain ⟨PA, hPA⟩ : ∃ y, y = (fun j => if j = ps then r else pa j) := ⟨_, rfl⟩
  obtain ⟨IX, hIX⟩ : ∃ y, y = (fun x => if x = r then en + 1 else ix x) := ⟨_, rfl⟩
  obtain ⟨LW, hLW⟩ : ∃ y, y = (fun x => if x = r then lo else lw x) := ⟨_, rfl⟩
  obtain ⟨CU, hCU⟩ : ∃ y, y = (fun x => if x = r then 0 else cu x) := ⟨_, rfl⟩
  obtain ⟨LD, hLD⟩ : ∃ y, y = (fun x => if x = r then ldv else ld x) := ⟨_, rfl⟩
  rw [← hPL, ← hPA, ← hIX, ← hLW, ← hCU, ← hLD]
  rw [← hPL, ← hPA, ← hIX, ← hLW, ← hCU, ← hLD] at key
  have PLo : ∀ i, i < ls → PL i = pl i := fun i hi => by rw [hPL]; exact if_neg (by omega)
  have PLn : PL ls = r := by rw [hPL]; exact if_pos rfl
  have PAo : ∀ j, j < ps → PA j = pa j := fun j hj => by rw [hPA]; exact if_neg (by omega)
  have PAn : PA ps = r := by rw [hPA]; exact if_pos rfl
  have IXo : ∀ x, ¬ x = r → IX x = ix x := fun x hx => by rw [hIX]; exact if_neg hx
  have IXn : IX r = en + 1 := by rw [hIX]; exact if_pos rfl
  have LWo : ∀ x, ¬ x = r → LW x = lw x := fun x hx => by rw [hLW]; exact if_neg hx
  have LWn : LW r = lo := by rw [hLW]; exact if_pos rfl
  have CUo : ∀ x, ¬ x = r → CU x = cu x := fun x hx => by rw [hCU]; exact if_neg hx
  have CUn : CU r = 0 := by rw [hCU]; exact if_pos rfl
  have LDo : ∀ x, ¬ x = r → LD x = ld x := fun x hx => by rw [hLD]; exact if_neg hx
  have LDn : LD r = ldv := by rw [hLD]; exact if_pos rfl
  clear hPL hPA hIX hLW hCU hLD s1 s2 s3 s4 s5 s6 hl1 hl2 hat
  refine ⟨⟨a1.keep hq rfl hNK, a2.q hq (fun _ => rfl) (fun _ => rfl) rfl, (hq.r 147 8 rfl).trans a3, a4.eq (hq.i 99 19 rfl) (hq.a 113 3 rfl) (fun c => by rw [hq.2.2.2.2.2 rfl])⟩, ⟨h20, h21, h22, (hq.i 147 9 rfl).trans k4, k5⟩, ⟨?_, c2, c3, c4, fun s hs y => c5 s hs (y.imp (hun.2 s) (fun w => ⟨w.1, w.2.1, by have w3 := w.2.2; rw [el] at w3; exact w3⟩))⟩, ⟨⟨fun i hi => ?_, fun j hj => ?_, fun i hi => ?_⟩, fun i hi => ?_⟩, ?_⟩
  · rw [hq.l 153 rfl]; exact c1
  · rw [hce, if_neg (by omega), if_neg (by omega)]
    by_cases y : i = ls
    · rw [if_pos (by omega), y, PLn]
    · rw [if_neg (by omega), if_neg (by omega), if_neg (by omega), if_neg (by omega), PLo i (by omega)]
      exact d1 i (by omega)
  · rw [hce, if_neg (by omega), if_neg (by omega), if_neg (by omega)]
    by_cases y : j = ps
    · rw [if_pos (by omega), y, PAn]
    · rw [if_neg (by omega), if_neg (by omega), if_neg (by omega), PAo j (by omega)]
      exact d1b j (by omega)
  · by_cases y : i = ls
    · rw [y, PLn, IXn, LWn, CUn, LDn]
      refine ⟨?_, ?_, ?_, ?_⟩
      · rw [hce, if_neg (by omega), if_neg (by omega), if_neg (by omega), if_neg (by omega), if_neg (by omega), if_pos rfl]
      · rw [hce, if_pos rfl]
      · rw [hce, if_neg (by omega), if_neg (by omega), if_neg (by omega), if_neg (by omega), if_pos rfl]
        rfl
      · rw [hce, if_neg (by omega), if_pos rfl]
    · have hne := hrn i (by omega)
      obtain ⟨y1, y2, y3, y4⟩ := d1c i (by omega)
      rw [PLo i (by omega), IXo _ hne, LWo _ hne, CUo _ hne, LDo _ hne]
      refine ⟨?_, ?_, ?_, ?_⟩
      · rw [hce, if_neg (by omega), if_neg (by omega), if_neg (by omega), if_neg (by omega), if_neg (by omega), if_neg (by omega)]; exact y1
      · rw [hce, if_neg (by omega), if_neg (by omega), if_neg (by omega), if_neg (by omega), if_neg (by omega), if_neg (by omega)]; exact y2
      · rw [hce, if_neg (by omega), if_neg (by omega), if_neg (by omega), if_neg (by omega), if_neg (by omega), if_neg (by omega)]; exact y3
      · rw [hce, if_neg (by omega), if_neg (by omega), if_neg (by omega), if_neg (by omega), if_neg (by omega), if_neg (by omega)]; exact y4
  · by_cases y : i = ls
    · rw [y, PLn, LWn, CUn]
      exact ⟨by omega, Nat.zero_le _⟩
    · have hne := hrn i (by omega)
      rw [PLo i (by omega), LWo _ hne, CUo _ hne]
      exact d2 i (by omega)
  · rw [el]; exact key
/-- the cursor of the last row of the path is set -/
theorem SWS.cursor (h : SWS U T R wn rx mb me ga gi gq RB A g0 ev nf FS en (p + 1) ls pa pl pp ix lw cu ld St Gd rk nr xr) (hxr : ∀ t, t < T → bts (U.2.2.2.2.1 150) t = true → ¬ rx t = xr) (hc2 : c2 ≤ T) (hc : ∀ t, t < T → RB (pa p) t → bts (U.2.2.2.2.1 150) t = true → c2 ≤ t ∨ rx t = xr2) : SWS (upA U 147 10 (pa p * 7 + 3) (nI c2)) T R wn rx mb me ga gi gq RB A g0 ev nf FS en (p + 1) ls pa pl pp ix lw (fun x => if x = pa p then c2 else cu x) ld St Gd rk nr xr2 := by
  obtain ⟨a, b, c, ⟨⟨d1, d1b, d1c⟩, d2⟩, e1⟩ := h
  obtain ⟨⟨a1, a2, a3, a4⟩, rest⟩ : (GRB U T R wn rx mb me ∧ LSN U ga gi gq 256 ∧ U.2.2.2.1 147 8 = some gq ∧ FST U nf T FS) ∧ True := ⟨a, trivial⟩
  have hat : ∀ j, ((upA U 147 10 (pa p * 7 + 3) (nI c2)).2.2.1 147 10).2 j = if j = pa p * 7 + 3 then nI c2 else (U.2.2.1 147 10).2 j := fun j => rfl
  have key := TJ.cursor (k := c2) (xr2 := xr2) e1 (fun t ht => hxr t ht.1 ht.2) (fun t hb ht => hc t ht.1 hb ht.2)
  obtain ⟨CU, hCU⟩ : ∃ y, y = (fun x => if x = pa p then c2 else cu x) := ⟨_, rfl⟩
  rw [← hCU]
  rw [← hCU] at key
  have CUo : ∀ x, ¬ x = pa p → CU x = cu x := fun x hx => by rw [hCU]; exact if_neg hx
  have CUn : CU (pa p) = c2 := by rw [hCU]; exact if_pos rfl
  clear hCU
  refine ⟨⟨?_, a2, a3, a4⟩, b, c, ⟨⟨fun i hi => ?_, fun j hj => ?_, fun i hi => ?_⟩, fun i hi => ?_⟩, key⟩
  · exact a1.keep (F := ⟨[], [], [(147, 10)], [], [], false⟩) ((uq.refl _ U).A rfl) rfl (fun j hj => by rw [hat, if_neg (by omega)])
  · rw [hat, if_neg (by omega)]; exact d1 i hi
  · rw [hat, if_neg (by omega)]; exact d1b j hj
  · obtain ⟨y1, y2, y3, y4⟩ := d1c i hi
    refine ⟨by rw [hat, if_neg (by omega)]; exact y1, by rw [hat, if_neg (by omega)]; exact y2, ?_, by rw [hat, if_neg (by omega)]; exact y4⟩
    rw [hat]
    by_cases y : pl i = pa p
    · rw [if_pos (by omega), y, CUn]
    · rw [if_neg (by omega), CUo _ y]; exact y3
  · refine ⟨(d2 i hi).1, ?_⟩
    by_cases y : pl i = pa p
    · rw [y, CUn]; exact hc2
    · rw [CUo _ y]; exact (d2 i hi).2
end Sweep
