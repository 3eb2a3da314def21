/-! The reference: a rank of MODULEs, room for INSTANCES -/
/-- the MODULE k makes the MODULE c -/
def chl (ms : List Mdl) (k c : Nat) : Prop := ∃ q, q < (mth ms k).2.2.length ∧ (tkd (nth (mth ms k).2.2 q) = 73 ∧ tkd (tkk (nth (mth ms k).2.2 q) 0) = 72) ∧ (mth ms c).1 = nam (tkk (nth (mth ms k).2.2 q) 0)
theorem ikb_tr {ms : List Mdl} {g : Nat → Bool} {nm : List Int32} : ∀ m k f, ikb ms g nm m k f = true → f = true ∧ ∀ i, k ≤ i → i < k + m → ¬ (g i = false ∧ (mth ms i).1 = nm)
  | 0, _, _, h => ⟨h, fun i h1 h2 => by omega⟩
  | m + 1, k, f, h => by
    rw [ikb] at h
    obtain ⟨h1, h2⟩ := ikb_tr m (k + 1) _ h
    by_cases e : g k = false ∧ (mth ms k).1 = nm
    · rw [if_pos e] at h1; cases h1
    · rw [if_neg e] at h1
      refine ⟨h1, fun i hi hi2 => ?_⟩
      by_cases e2 : i = k
      · rw [e2]; exact e
      · exact h2 i (by omega) (by omega)
theorem jkb_tr {ms : List Mdl} {g : Nat → Bool} {cs : List Tre} : ∀ m k f, jkb ms g cs m k f = true → f = true ∧ ∀ q, k ≤ q → q < k + m → (tkd (nth cs q) = 73 ∧ tkd (tkk (nth cs q) 0) = 72) → ∀ i, i < ms.length → ¬ (g i = false ∧ (mth ms i).1 = nam (tkk (nth cs q) 0))
  | 0, _, _, h => ⟨h, fun q h1 h2 => by omega⟩
  | m + 1, k, f, h => by
    rw [jkb] at h
    obtain ⟨h1, h2⟩ := jkb_tr m (k + 1) _ h
    by_cases e : tkd (nth cs k) = 73 ∧ tkd (tkk (nth cs k) 0) = 72
    · rw [if_pos e] at h1
      obtain ⟨h3, h4⟩ := ikb_tr _ _ _ h1
      refine ⟨h3, fun q hq hq2 eq i hi => ?_⟩
      by_cases e2 : q = k
      · rw [e2]; exact h4 i (Nat.zero_le _) (by omega)
      · exact h2 q (by omega) (by omega) eq i hi
    · rw [if_neg e] at h1
      refine ⟨h1, fun q hq hq2 eq i hi => ?_⟩
      by_cases e2 : q = k
      · rw [e2] at eq; exact absurd eq e
      · exact h2 q (by omega) (by omega) eq i hi
theorem frk_tr {ms : List Mdl} {g : Nat → Bool} {k c : Nat} (h : frk ms g k = true) (hc : c < ms.length) (hk : chl ms k c) : g c = true := by
  obtain ⟨q, q1, q2, q3⟩ := hk
  have := (jkb_tr _ _ _ h).2 q (Nat.zero_le _) (by omega) q2 c hc
  cases e : g c with
  | true => rfl
  | false => exact absurd ⟨e, q3⟩ this
/-- what is gone has a rank -/
def rki (ms : List Mdl) (g : Nat → Bool) : Prop := ∃ (rk : Nat → Nat) (N : Nat), ∀ k, g k = true → rk k < N ∧ ∀ c, c < ms.length → chl ms k c → g c = true ∧ rk c < rk k
theorem rki.upd {ms : List Mdl} {g : Nat → Bool} {k : Nat} (h : rki ms g) (hg : g k = false) (hf : frk ms g k = true) : rki ms (updb g k) := by
  obtain ⟨rk, N, hr⟩ := h
  have hu : ∀ i, i ≠ k → updb g k i = g i := fun i e => if_neg e
  have huk : updb g k k = true := if_pos rfl
  refine ⟨fun i => if i = k then N else rk i, N + 1, fun i hi => ?_⟩
  by_cases e : i = k
  · subst e
    refine ⟨by dsimp only; rw [if_pos rfl]; omega, fun c hc hch => ?_⟩
    have hgc := frk_tr hf hc hch
    have e2 : c ≠ i := fun z => by rw [z, hg] at hgc; cases hgc
    refine ⟨(hu c e2).trans hgc, ?_⟩
    dsimp only
    rw [if_neg e2, if_pos rfl]
    exact (hr c hgc).1
  · rw [hu i e] at hi
    refine ⟨by dsimp only; rw [if_neg e]; have := (hr i hi).1; omega, fun c hc hch => ?_⟩
    obtain ⟨h1, h2⟩ := (hr i hi).2 c hc hch
    have e2 : c ≠ k := fun z => by rw [z, hg] at h1; cases h1
    refine ⟨(hu c e2).trans h1, ?_⟩
    dsimp only
    rw [if_neg e2, if_neg e]
    exact h2
theorem rki_cyp {ms : List Mdl} : ∀ m k g b, rki ms g → rki ms (cyp ms m k g b).1
  | 0, _, _, _, h => h
  | m + 1, k, g, b, h => by
    unfold cyp
    by_cases e : g k = false ∧ frk ms g k = true
    · rw [if_pos e]; exact rki_cyp m (k + 1) _ _ (h.upd e.1 e.2)
    · rw [if_neg e]; exact rki_cyp m (k + 1) _ _ h
theorem rki_cyl {ms : List Mdl} {g1 : Nat → Bool} : ∀ f g, cyl ms f g = some g1 → rki ms g → rki ms g1
  | 0, _, h, _ => by cases h
  | f + 1, g, h, hr => by
    have hr1 := rki_cyp ms.length 0 g false hr
    rw [cyl] at h
    by_cases e : (cyp ms ms.length 0 g false).2 = true
    · rw [if_pos e] at h; exact rki_cyl f _ h hr1
    · rw [if_neg e] at h; cases h; exact hr1
theorem ncz.rank {ms : List Mdl} (h : ncz ms) : ∃ (rk : Nat → Nat) (N : Nat), ∀ k, k < ms.length → rk k < N ∧ ∀ c, c < ms.length → chl ms k c → rk c < rk k := by
  obtain ⟨g, h1, h2⟩ := h
  obtain ⟨rk, N, hr⟩ := rki_cyl _ _ h1 ⟨fun _ => 0, 0, fun k z => by cases z⟩
  exact ⟨rk, N, fun k hk => ⟨(hr k (h2 k hk)).1, fun c hc hch => ((hr k (h2 k hk)).2 c hc hch).2⟩⟩
/-- the sizes of the MODULEs of a rank above x -/
def usm (sz rk : Nat → Nat) (x : Nat) : Nat → Nat
  | 0 => 0
  | n + 1 => usm sz rk x n + (if x < rk n then sz n else 0)
def tsm (sz : Nat → Nat) : Nat → Nat
  | 0 => 0
  | n + 1 => tsm sz n + sz n
theorem usm_mono {sz rk : Nat → Nat} {x y : Nat} (h : y ≤ x) : ∀ n, usm sz rk x n ≤ usm sz rk y n
  | 0 => Nat.le_refl _
  | n + 1 => by
    have := usm_mono (sz := sz) (rk := rk) h n
    rw [usm, usm]
    by_cases e : x < rk n
    · rw [if_pos e, if_pos (by omega)]; omega
    · rw [if_neg e]; omega
theorem usm_lt {sz rk : Nat → Nat} {i y : Nat} (h : y < rk i) : ∀ n, i < n → usm sz rk (rk i) n + sz i ≤ usm sz rk y n
  | 0, hi => absurd hi (Nat.not_lt_zero _)
  | n + 1, hi => by
    rw [usm, usm]
    by_cases e : n = i
    · subst e
      have := usm_mono (sz := sz) (rk := rk) (Nat.le_of_lt h) n
      rw [if_neg (Nat.lt_irrefl _), if_pos h]; omega
    · have := usm_lt (sz := sz) h n (by omega)
      by_cases e2 : rk i < rk n
      · rw [if_pos e2, if_pos (by omega)]; omega
      · rw [if_neg e2]; omega
theorem usm_le {sz rk : Nat → Nat} {x : Nat} : ∀ n, usm sz rk x n ≤ tsm sz n
  | 0 => Nat.le_refl _
  | n + 1 => by
    have := usm_le (sz := sz) (rk := rk) (x := x) n
    rw [usm, tsm]
    split <;> omega
theorem usm_tot {sz rk : Nat → Nat} {i : Nat} : ∀ n, i < n → usm sz rk (rk i) n + sz i ≤ tsm sz n
  | 0, hi => absurd hi (Nat.not_lt_zero _)
  | n + 1, hi => by
    rw [usm, tsm]
    by_cases e : n = i
    · subst e
      have := usm_le (sz := sz) (rk := rk) (x := rk n) n
      rw [if_neg (Nat.lt_irrefl _)]; omega
    · have := usm_tot (sz := sz) (rk := rk) n (show i < n by omega)
      split <;> omega
/-- room for INSTANCES -/
theorem ncz.room {ms : List Mdl} (h : ncz ms) (sz : Nat → Nat) (hsz : ∀ k q, k < ms.length → q < (mth ms k).2.2.length → (mth ms k).2.2.length + tsn (tkk (nth (mth ms k).2.2 q) 0) ≤ sz k) (hs2 : ∀ k, k < ms.length → (mth ms k).2.2.length ≤ sz k) : ∃ (rk Xf : Nat → Nat) (N : Nat), (∀ k, k < ms.length → rk k < N ∧ ∀ c, c < ms.length → chl ms k c → rk c < rk k) ∧ (∀ k, k < ms.length → 4000 ≤ Xf k ∧ Xf k + (mth ms k).2.2.length ≤ 4000 + tsm sz ms.length) ∧ ∀ k q i, k < ms.length → q < (mth ms k).2.2.length → tkd (nth (mth ms k).2.2 q) = 73 → tkd (tkk (nth (mth ms k).2.2 q) 0) = 72 → mtx ms (nam (tkk (nth (mth ms k).2.2 q) 0)) = some i → Xf k + (mth ms k).2.2.length + tsn (tkk (nth (mth ms k).2.2 q) 0) ≤ Xf i := by
  obtain ⟨rk, N, hr⟩ := h.rank
  refine ⟨rk, fun k => 4000 + usm sz rk (rk k) ms.length, N, hr, fun k hk => ⟨Nat.le_add_right _ _, ?_⟩, fun k q i hk hq e1 e2 hi => ?_⟩
  · have := usm_tot (sz := sz) (rk := rk) ms.length hk
    have := hs2 k hk
    show 4000 + usm sz rk (rk k) ms.length + _ ≤ _
    omega
  · have f := fio_some _ _ _ hi
    have hil : i < ms.length := by omega
    have hn : (mth ms i).1 = nam (tkk (nth (mth ms k).2.2 q) 0) := of_decide_eq_true f.1
    have := usm_lt (sz := sz) ((hr k hk).2 i hil ⟨q, hq, ⟨e1, e2⟩, hn⟩) ms.length hk
    have := hsz k q hk hq
    show 4000 + usm sz rk (rk k) ms.length + _ + _ ≤ 4000 + usm sz rk (rk i) ms.length
    omega
theorem ipl_tot {ms : List Mdl} {rec : Nat → Nat → Tre → Sg → Option (Option Sg)} {cs : List Tre} {j : Nat} (hrec : ∀ q i σ, q < cs.length → tkd (nth cs q) = 73 → tkd (tkk (nth cs q) 0) = 72 → mtx ms (nam (tkk (nth cs q) 0)) = some i → ∃ rs, rec i j (tkk (nth cs q) 0) σ = some rs) : ∀ m k σ, k + m = cs.length → ∃ R, ipl ms rec cs j m k σ = some R
  | 0, _, σ, _ => ⟨some σ, by rw [ipl]⟩
  | m + 1, k, (n, Iv, pr, en), hm => by
    rw [ipl]
    by_cases e : tkd (nth cs k) = 74
    · rw [if_pos e]; exact ipl_tot hrec m (k + 1) _ (by omega)
    · rw [if_neg e]
      by_cases e2 : tkd (nth cs k) = 73
      · rw [if_pos e2]
        by_cases e3 : tkd (tkk (nth cs k) 0) = 72
        · rw [if_pos e3]
          cases hi : mtx ms (nam (tkk (nth cs k) 0)) with
          | none => exact ⟨_, rfl⟩
          | some i =>
            obtain ⟨rs, hr⟩ := hrec k i (n, ivs Iv j k (-1), pr, en + 1) (by omega) e2 e3 hi
            dsimp only
            rw [hr]
            cases rs with
            | none => exact ⟨_, rfl⟩
            | some σ1 => exact ipl_tot hrec m (k + 1) _ (by omega)
        · rw [if_neg e3]; exact ipl_tot hrec m (k + 1) _ (by omega)
      · rw [if_neg e2]; exact ipl_tot hrec m (k + 1) _ (by omega)
/-- with fuel above the rank there is an answer -/
theorem ist_tot {ms : List Mdl} {rk : Nat → Nat} (hr : ∀ k, k < ms.length → ∀ c, c < ms.length → chl ms k c → rk c < rk k) : ∀ f mi p0 ty σ, mi < ms.length → rk mi < f → ∃ rs, ist ms f mi p0 ty σ = some rs
  | 0, _, _, _, _, _, h => absurd h (Nat.not_lt_zero _)
  | f + 1, mi, p0, ty, (n, Iv, pr, en), hmi, hf => by
    rw [ist_eq]
    by_cases e : 200 ≤ n
    · rw [if_pos e]; exact ⟨_, rfl⟩
    · rw [if_neg e]
      obtain ⟨R, hR⟩ := ipl_tot (ms := ms) (rec := fun a b c σ => ist ms f a b (some c) σ) (cs := (mth ms mi).2.2) (j := n) (fun q i σ hq e1 e2 hi => by
        have f1 := fio_some _ _ _ hi
        have hil : i < ms.length := by omega
        have := hr mi hmi i hil ⟨q, hq, ⟨e1, e2⟩, of_decide_eq_true f1.1⟩
        exact ist_tot hr f i n (some _) σ hil (by omega)) (mth ms mi).2.2.length 0 (n + 1, iup Iv n (mi, (pr 0).length, (fun _ => 0), (fun _ => none), (fun _ => 0)), tyg ty p0 pr, en + tyn ty) (Nat.zero_add _)
      rw [hR]
      cases R with
      | none => exact ⟨_, rfl⟩
      | some σ1 =>
        obtain ⟨n1, Iv1, pr1, en1⟩ := σ1
        dsimp only
        by_cases e4 : 4000 < en1
        · rw [if_pos e4]; exact ⟨_, rfl⟩
        · rw [if_neg e4]; exact ⟨_, rfl⟩
